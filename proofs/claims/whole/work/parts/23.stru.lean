/-! ===== steps of the class and codes of the reference: how control goes =====
B: the class's arrays (2 kinds, 4 targets, 5 parents, 6 firsts, 7 seconds, 8 nexts, 12 entries, 13 defined, 14 openers, 15 elses, 16 lastSteps), C: the reference's (6 codes, 7 targets, 14 entries, 15 isDefined).
g, by numbers: 0 a step's code, 1 the place behind a closed step, 2 whose it is (26: the program's own, else its procedure's rank), 3 the jump ahead of its second block, 4 what a code is (0 a step, 1 back to a loop, 2 ahead of a second block, 3 over a definition, 4 over the open definition), 5 the step of a jump of kind 2, 6 has a second block, 7 stands in a second block, 8 a procedure's rank -/
abbrev AR : Type := Nat → Nat → Int32
abbrev GH : Type := Nat → Nat → Nat
def JC (C : AR) (g : GH) : Nat → Nat → Nat → Prop
  | 0, h, h' => h = h'
  | k + 1, h, h' => C 6 h = 11 ∧ g 4 h = 3 ∧ ∃ t : Nat, C 7 h = nI t ∧ h < t ∧ JC C g k t h'
def JJ (C : AR) (g : GH) (m h h' : Nat) : Prop := h' ≤ m ∧ ∃ k, JC C g k h h'
theorem JC_le {C : AR} {g : GH} : ∀ {k h h' : Nat}, JC C g k h h' → h ≤ h' := by
  intro k
  induction k with
  | zero => intro h h' q; exact Nat.le_of_eq q
  | succ k ih =>
    intro h h' q
    obtain ⟨-, -, t, -, h1, h2⟩ := q
    have := ih h2
    omega
theorem JC_stable {C C' : AR} {g g' : GH} {m : Nat} (hs : ∀ h, h < m → g 4 h = 3 → C' 6 h = C 6 h ∧ C' 7 h = C 7 h ∧ g' 4 h = 3) : ∀ {k h h' : Nat}, h' ≤ m → JC C g k h h' → JC C' g' k h h' := by
  intro k
  induction k with
  | zero => intro h h' _ q; exact q
  | succ k ih =>
    intro h h' hm q
    obtain ⟨q1, q2, t, q3, q4, q5⟩ := q
    have := JC_le q5
    obtain ⟨s1, s2, s3⟩ := hs h (by omega) q2
    exact ⟨by rw [s1]; exact q1, s3, t, by rw [s2]; exact q3, q4, ih hm q5⟩
theorem JC_snoc {C : AR} {g : GH} : ∀ {k h h' t : Nat}, JC C g k h h' → C 6 h' = 11 → g 4 h' = 3 → C 7 h' = nI t → h' < t → JC C g (k + 1) h t := by
  intro k
  induction k with
  | zero =>
    intro h h' t q q1 q2 q3 q4
    have e : h = h' := q
    subst e
    exact ⟨q1, q2, t, q3, q4, rfl⟩
  | succ k ih =>
    intro h h' t q q1 q2 q3 q4
    obtain ⟨a1, a2, u, a3, a4, a5⟩ := q
    exact ⟨a1, a2, u, a3, a4, ih a5 q1 q2 q3 q4⟩
theorem JJ_rf {C : AR} {g : GH} {m h : Nat} (hm : h ≤ m) : JJ C g m h h := ⟨hm, 0, rfl⟩
theorem JJ_up {C : AR} {g : GH} {m m' h h' : Nat} (q : JJ C g m h h') (hm : m ≤ m') : JJ C g m' h h' := ⟨Nat.le_trans q.1 hm, q.2⟩
/-- how it goes on behind a step that is settled -/
def FinP (B C : AR) (g : GH) (S m : Nat) (O : Nat → Prop) (s : Nat) : Prop :=
  (∃ t : Nat, B 8 s = nI t ∧ s < t ∧ t < S ∧ g 2 t = g 2 s ∧ JJ C g m (g 1 s) (g 0 t)) ∨
  (B 8 s = -1 ∧ ((B 5 s = -1 ∧ g 2 s < 26 ∧ g 1 s < m ∧ C 6 (g 1 s) = 12) ∨ ∃ p : Nat, B 5 s = nI p ∧ p < s ∧ g 2 p = g 2 s ∧
    ((B 2 p = 42 ∧ g 1 s < m ∧ C 6 (g 1 s) = 11 ∧ g 4 (g 1 s) = 1 ∧ C 7 (g 1 s) = nI (g 0 p)) ∨
     (B 2 p = 63 ∧ ((g 6 p = 1 ∧ g 7 s = 0 ∧ g 1 s = g 3 p) ∨ (¬ O p ∧ (g 6 p = 0 ∨ g 7 s = 1) ∧ g 1 s = g 1 p))))))
def FIok (B : AR) (g : GH) (S s : Nat) : Prop := ∃ t : Nat, B 6 s = nI t ∧ s < t ∧ t < S ∧ g 0 t = g 0 s + 1 ∧ g 2 t = g 2 s
def SEok (B : AR) (g : GH) (S s : Nat) : Prop := ∃ t : Nat, B 7 s = nI t ∧ s < t ∧ t < S ∧ g 0 t = g 3 s + 1 ∧ g 2 t = g 2 s
def ELok (B C : AR) (g : GH) (S m s : Nat) : Prop := g 6 s = 1 ∧ g 0 s < g 3 s ∧ g 3 s < m ∧ C 6 (g 3 s) = 11 ∧ g 4 (g 3 s) = 2 ∧ g 5 (g 3 s) = s ∧ C 7 (g 0 s) = nI (g 3 s + 1) ∧ ((B 6 s = -1 ∧ g 3 s = g 0 s + 1) ∨ FIok B g S s)
/-- a step that is closed -/
def CLP (B C : AR) (g : GH) (S m s : Nat) : Prop :=
  g 1 s ≤ m ∧ ((B 2 s = 42 ∧ g 6 s = 0 ∧ C 7 (g 0 s) = nI (g 1 s) ∧ ((B 6 s = -1 ∧ g 0 s + 1 < m ∧ C 6 (g 0 s + 1) = 11 ∧ g 4 (g 0 s + 1) = 1 ∧ C 7 (g 0 s + 1) = nI (g 0 s)) ∨ FIok B g S s)) ∨
  (B 2 s = 63 ∧ g 6 s = 0 ∧ B 7 s = -1 ∧ C 7 (g 0 s) = nI (g 1 s) ∧ ((B 6 s = -1 ∧ g 1 s = g 0 s + 1) ∨ FIok B g S s)) ∨
  (B 2 s = 63 ∧ ELok B C g S m s ∧ C 7 (g 3 s) = nI (g 1 s) ∧ ((B 7 s = -1 ∧ g 1 s = g 3 s + 1) ∨ SEok B g S s)) ∨
  (¬ B 2 s = 42 ∧ ¬ B 2 s = 63 ∧ g 6 s = 0 ∧ g 1 s = g 0 s + 1))
/-- the structure: U the steps that are not settled yet, O those that are open -/
def ST (B C : AR) (g : GH) (S m : Nat) (O U : Nat → Prop) : Prop :=
  (∀ s, s < S → U s ∨ FinP B C g S m O s) ∧ (∀ s, s < S → O s ∨ CLP B C g S m s) ∧ (∀ s, s < S → g 0 s < m ∧ g 4 (g 0 s) = 0) ∧ ∀ s t, s < t → t < S → g 0 s < g 0 t
/-- old and new agree on what is settled -/
def AG (B B' C C' : AR) (g g' : GH) (S m : Nat) (O U : Nat → Prop) : Prop :=
  (∀ s, s < S → (¬ U s → B' 8 s = B 8 s) ∧ B' 5 s = B 5 s ∧ B' 2 s = B 2 s ∧ (¬ O s → B' 6 s = B 6 s ∧ B' 7 s = B 7 s)) ∧
  (∀ s, s < S → g' 0 s = g 0 s ∧ g' 2 s = g 2 s ∧ g' 7 s = g 7 s ∧ (¬ O s → g' 1 s = g 1 s ∧ g' 6 s = g 6 s) ∧ (g 6 s = 1 → g' 6 s = 1 ∧ g' 3 s = g 3 s)) ∧
  (∀ h, h < m → C' 6 h = C 6 h ∧ (g 4 h = 1 ∨ g 4 h = 3 → C' 7 h = C 7 h) ∧ (¬ g 4 h = 4 → g' 4 h = g 4 h) ∧ (g 4 h = 2 → g' 5 h = g 5 h)) ∧
  ∀ s, s < S → ¬ O s → C' 7 (g 0 s) = C 7 (g 0 s) ∧ (g 6 s = 1 → C' 7 (g 3 s) = C 7 (g 3 s))
theorem AG_JJ {B B' C C' : AR} {g g' : GH} {S m m' : Nat} {O U : Nat → Prop} (h : AG B B' C C' g g' S m O U) (hm : m ≤ m') {x y : Nat} (q : JJ C g m x y) : JJ C' g' m' x y := by
  obtain ⟨h1, k, hk⟩ := q
  refine ⟨by omega, k, JC_stable (m := m) (fun p hp h3 => ?_) h1 hk⟩
  obtain ⟨a1, a2, a3, -⟩ := h.2.2.1 p hp
  exact ⟨a1, a2 (Or.inr h3), by rw [a3 (by omega)]; exact h3⟩
theorem AG_FI {B B' C C' : AR} {g g' : GH} {S S' m : Nat} {O U : Nat → Prop} (h : AG B B' C C' g g' S m O U) (hS : S ≤ S') {s : Nat} (hs : s < S) (he : B' 6 s = B 6 s) (q : FIok B g S s) : FIok B' g' S' s := by
  obtain ⟨t, q1, q2, q3, q4, q5⟩ := q
  refine ⟨t, by rw [he]; exact q1, q2, by omega, ?_, ?_⟩
  · rw [(h.2.1 t q3).1, (h.2.1 s hs).1]; exact q4
  · rw [(h.2.1 t q3).2.1, (h.2.1 s hs).2.1]; exact q5
theorem AG_SE {B B' C C' : AR} {g g' : GH} {S S' m : Nat} {O U : Nat → Prop} (h : AG B B' C C' g g' S m O U) (hS : S ≤ S') {s : Nat} (hs : s < S) (he : B' 7 s = B 7 s) (h3 : g' 3 s = g 3 s) (q : SEok B g S s) : SEok B' g' S' s := by
  obtain ⟨t, q1, q2, q3, q4, q5⟩ := q
  refine ⟨t, by rw [he]; exact q1, q2, by omega, ?_, ?_⟩
  · rw [(h.2.1 t q3).1, h3]; exact q4
  · rw [(h.2.1 t q3).2.1, (h.2.1 s hs).2.1]; exact q5
theorem AG_EL {B B' C C' : AR} {g g' : GH} {S S' m m' : Nat} {O U : Nat → Prop} (h : AG B B' C C' g g' S m O U) (hS : S ≤ S') (hm : m ≤ m') {s : Nat} (hs : s < S) (he : B' 6 s = B 6 s) (h7 : C' 7 (g 0 s) = C 7 (g 0 s)) (q : ELok B C g S m s) : ELok B' C' g' S' m' s := by
  obtain ⟨q1, q2, q3, q4, q5, q6, q7, q8⟩ := q
  obtain ⟨a1, a2⟩ := (h.2.1 s hs).2.2.2.2 q1
  obtain ⟨c1, c2, c3, c4⟩ := h.2.2.1 (g 3 s) q3
  refine ⟨a1, by rw [a2, (h.2.1 s hs).1]; exact q2, by rw [a2]; omega, by rw [a2, c1]; exact q4, by rw [a2, c3 (by omega)]; exact q5, by rw [a2, c4 q5]; exact q6, by rw [a2, (h.2.1 s hs).1, h7]; exact q7, ?_⟩
  rcases q8 with ⟨e1, e2⟩ | e
  · exact Or.inl ⟨by rw [he]; exact e1, by rw [a2, (h.2.1 s hs).1]; exact e2⟩
  · exact Or.inr (AG_FI h hS hs he e)
theorem AG_Fin {B B' C C' : AR} {g g' : GH} {S S' m m' : Nat} {O O' U : Nat → Prop} (h : AG B B' C C' g g' S m O U) (hS : S ≤ S') (hm : m ≤ m') (hO : ∀ s, s < S → O' s → O s) {s : Nat} (hs : s < S) (hu : ¬ U s) (ho : ¬ O s) (q : FinP B C g S m O s) : FinP B' C' g' S' m' O' s := by
  have b8 := (h.1 s hs).1 hu
  have b5 := (h.1 s hs).2.1
  have g1 := ((h.2.1 s hs).2.2.2.1 ho).1
  rcases q with ⟨t, q1, q2, q3, q4, q5⟩ | ⟨q1, q⟩
  · refine Or.inl ⟨t, by rw [b8]; exact q1, q2, by omega, by rw [(h.2.1 t q3).2.1, (h.2.1 s hs).2.1]; exact q4, ?_⟩
    rw [g1, (h.2.1 t q3).1]
    exact AG_JJ h hm q5
  · refine Or.inr ⟨by rw [b8]; exact q1, ?_⟩
    rcases q with ⟨q2, q3, q4, q5⟩ | ⟨p, q2, q3, q4, q⟩
    · refine Or.inl ⟨by rw [b5]; exact q2, by rw [(h.2.1 s hs).2.1]; exact q3, by rw [g1]; omega, ?_⟩
      rw [g1, (h.2.2.1 _ q4).1]; exact q5
    · have hp : p < S := by omega
      refine Or.inr ⟨p, by rw [b5]; exact q2, q3, by rw [(h.2.1 p hp).2.1, (h.2.1 s hs).2.1]; exact q4, ?_⟩
      rcases q with ⟨r1, r2, r3, r4, r5⟩ | ⟨r1, r⟩
      · obtain ⟨c1, c2, c3, -⟩ := h.2.2.1 _ r2
        refine Or.inl ⟨by rw [(h.1 p hp).2.2.1]; exact r1, by rw [g1]; omega, by rw [g1, c1]; exact r3, by rw [g1, c3 (by omega)]; exact r4, by rw [g1, c2 (Or.inl r4), (h.2.1 p hp).1]; exact r5⟩
      · refine Or.inr ⟨by rw [(h.1 p hp).2.2.1]; exact r1, ?_⟩
        rcases r with ⟨u1, u2, u3⟩ | ⟨u1, u2, u3⟩
        · obtain ⟨a1, a2⟩ := (h.2.1 p hp).2.2.2.2 u1
          exact Or.inl ⟨a1, by rw [(h.2.1 s hs).2.2.1]; exact u2, by rw [g1, a2]; exact u3⟩
        · obtain ⟨a1, a2⟩ := (h.2.1 p hp).2.2.2.1 u1
          exact Or.inr ⟨fun z => u1 (hO p hp z), by rw [a2, (h.2.1 s hs).2.2.1]; exact u2, by rw [g1, a1]; exact u3⟩
theorem AG_CL {B B' C C' : AR} {g g' : GH} {S S' m m' : Nat} {O U : Nat → Prop} (h : AG B B' C C' g g' S m O U) (hS : S ≤ S') (hm : m ≤ m') {s : Nat} (hs : s < S) (ho : ¬ O s) (q : CLP B C g S m s) : CLP B' C' g' S' m' s := by
  obtain ⟨a1, a2⟩ := (h.2.1 s hs).2.2.2.1 ho
  obtain ⟨b6, b7⟩ := (h.1 s hs).2.2.2 ho
  have b2 := (h.1 s hs).2.2.1
  have g0 := (h.2.1 s hs).1
  obtain ⟨t1, t2⟩ := h.2.2.2 s hs ho
  refine ⟨by rw [a1]; have := q.1; omega, ?_⟩
  rcases q.2 with ⟨q1, q6, q2, q3⟩ | ⟨q1, q2, q3, q4, q5⟩ | ⟨q1, q2, q3, q4⟩ | ⟨q1, q2, q6, q3⟩
  · refine Or.inl ⟨by rw [b2]; exact q1, by rw [a2]; exact q6, by rw [g0, a1, t1]; exact q2, ?_⟩
    rcases q3 with ⟨e1, e2, e3, e4, e5⟩ | e
    · obtain ⟨c1, c2, c3, -⟩ := h.2.2.1 _ e2
      exact Or.inl ⟨by rw [b6]; exact e1, by rw [g0]; omega, by rw [g0, c1]; exact e3, by rw [g0, c3 (by omega)]; exact e4, by rw [g0, c2 (Or.inl e4)]; exact e5⟩
    · exact Or.inr (AG_FI h hS hs b6 e)
  · refine Or.inr (Or.inl ⟨by rw [b2]; exact q1, by rw [a2]; exact q2, by rw [b7]; exact q3, by rw [g0, a1, t1]; exact q4, ?_⟩)
    rcases q5 with ⟨e1, e2⟩ | e
    · exact Or.inl ⟨by rw [b6]; exact e1, by rw [g0, a1]; exact e2⟩
    · exact Or.inr (AG_FI h hS hs b6 e)
  · have h3 := ((h.2.1 s hs).2.2.2.2 q2.1).2
    refine Or.inr (Or.inr (Or.inl ⟨by rw [b2]; exact q1, AG_EL h hS hm hs b6 t1 q2, by rw [h3, a1, t2 q2.1]; exact q3, ?_⟩))
    rcases q4 with ⟨e1, e2⟩ | e
    · exact Or.inl ⟨by rw [b7]; exact e1, by rw [h3, a1]; exact e2⟩
    · exact Or.inr (AG_SE h hS hs b7 h3 e)
  · exact Or.inr (Or.inr (Or.inr ⟨by rw [b2]; exact q1, by rw [b2]; exact q2, by rw [a2]; exact q6, by rw [g0, a1]; exact q3⟩))
theorem CLP_jp {B C : AR} {g : GH} {S m s : Nat} (q : CLP B C g S m s) (h : g 6 s = 1) : ELok B C g S m s := by
  rcases q.2 with ⟨-, q6, -⟩ | ⟨-, q6, -⟩ | ⟨-, q2, -⟩ | ⟨-, -, q6, -⟩
  · omega
  · omega
  · exact q2
  · omega
