/-! ===== one more step ===== -/
theorem nIm1 {s : Nat} (h : s < 2 ^ 31) : ¬ nI s = -1 := fun z => (m1ne h).mp z
theorem nIj {a b : Nat} (ha : a < 2 ^ 31) (hb : b < 2 ^ 31) (h : nI a = nI b) : a = b := (nI_inj ha hb).mp h
/-- the class's arrays, a step added at level d -/
def ADDB (B B' : AR) (S d prc pl : Nat) (kd pc tg : Int32) : Prop :=
  (B' 2 = upd (B 2) S kd ∧ B' 3 = upd (B 3) S pc ∧ B' 4 = upd (B 4) S tg ∧ B' 5 = upd (B 5) S (B 14 d) ∧ B' 9 = upd (B 9) S (nI pl)) ∧ (B' 10 = B 10 ∧ B' 11 = B 11 ∧ B' 13 = B 13 ∧ B' 14 = B 14 ∧ B' 15 = B 15 ∧ B' 16 = upd (B 16) d (nI S)) ∧
  ((∀ s, s < S → ¬ B 16 d = nI s → B' 8 s = B 8 s) ∧ B' 8 S = -1 ∧ ∀ l : Nat, l < S → B 16 d = nI l → B' 8 l = nI S) ∧
  ((∀ s, s < S → ¬ (B 14 d = nI s ∧ B 16 d = -1 ∧ B 15 d = 0) → B' 6 s = B 6 s) ∧ B' 6 S = -1 ∧ ∀ o : Nat, o < S → B 14 d = nI o → B 16 d = -1 → B 15 d = 0 → B' 6 o = nI S) ∧
  ((∀ s, s < S → ¬ (B 14 d = nI s ∧ B 16 d = -1 ∧ B 15 d = 1) → B' 7 s = B 7 s) ∧ B' 7 S = -1 ∧ ∀ o : Nat, o < S → B 14 d = nI o → B 16 d = -1 → B 15 d = 1 → B' 7 o = nI S) ∧
  ((∀ q, ¬ (q = prc ∧ B 16 d = -1 ∧ B 14 d = -1) → B' 12 q = B 12 q) ∧ (B 16 d = -1 → B 14 d = -1 → B' 12 prc = nI S))
def ADDC (C C' : AR) (m pl : Nat) (ck ct pc : Int32) : Prop :=
  C' 6 = upd (C 6) m ck ∧ C' 7 = upd (C 7) m ct ∧ C' 8 = upd (C 8) m (nI pl) ∧ C' 9 = upd (C 9) m (nI pl) ∧ C' 10 = upd (C 10) m pc ∧ C' 11 = upd (C 11) m 0 ∧ C' 12 = C 12 ∧ C' 13 = C 13 ∧ C' 14 = C 14 ∧ C' 15 = C 15
/-- one entry of the book changed -/
def gu (g : GH) (k i v : Nat) : GH := fun k' i' => if k' = k then (if i' = i then v else g k' i') else g k' i'
theorem gu_k {g : GH} {k i v k' i' : Nat} (h : k' ≠ k) : gu g k i v k' i' = g k' i' := if_neg h
theorem gu_i {g : GH} {k i v i' : Nat} (h : i' ≠ i) : gu g k i v k i' = g k i' := by unfold gu; rw [if_pos rfl, if_neg h]
theorem gu_s {g : GH} {k i v : Nat} : gu g k i v k i = v := by unfold gu; rw [if_pos rfl, if_pos rfl]
/-- the book of a new step S, its code at m -/
def gNew (g : GH) (S m ow el pc pl : Nat) : GH := gu (gu (gu (gu (gu (gu (gu (gu g 0 S m) 1 S (m + 1)) 2 S ow) 4 m 0) 6 S 0) 7 S el) 9 S pc) 10 S pl
theorem gNew_old {g : GH} {S m ow el pc pl k i : Nat} (h : (k ≠ 4 → i ≠ S) ∧ (k = 4 → i ≠ m)) : gNew g S m ow el pc pl k i = g k i := by
  unfold gNew gu
  by_cases e4 : k = 4
  · have := h.2 e4
    subst e4
    simp [this]
  · have h1 := h.1 e4
    by_cases e0 : k = 0
    · subst e0; simp [h1]
    · by_cases e1 : k = 1
      · subst e1; simp [h1]
      · by_cases e2 : k = 2
        · subst e2; simp [h1]
        · by_cases e6 : k = 6
          · subst e6; simp [h1]
          · by_cases e7 : k = 7
            · subst e7; simp [h1]
            · by_cases e9 : k = 9
              · subst e9; simp [h1]
              · by_cases e10 : k = 10
                · subst e10; simp [h1]
                · simp [e0, e1, e2, e4, e6, e7, e9, e10]
theorem gNew_0 {g : GH} {S m ow el pc pl : Nat} : gNew g S m ow el pc pl 0 S = m := by unfold gNew gu; simp
theorem gNew_1 {g : GH} {S m ow el pc pl : Nat} : gNew g S m ow el pc pl 1 S = m + 1 := by unfold gNew gu; simp
theorem gNew_2 {g : GH} {S m ow el pc pl : Nat} : gNew g S m ow el pc pl 2 S = ow := by unfold gNew gu; simp
theorem gNew_4 {g : GH} {S m ow el pc pl : Nat} : gNew g S m ow el pc pl 4 m = 0 := by unfold gNew gu; simp
theorem gNew_6 {g : GH} {S m ow el pc pl : Nat} : gNew g S m ow el pc pl 6 S = 0 := by unfold gNew gu; simp
theorem gNew_7 {g : GH} {S m ow el pc pl : Nat} : gNew g S m ow el pc pl 7 S = el := by unfold gNew gu; simp
theorem gNew_9 {g : GH} {S m ow el pc pl : Nat} : gNew g S m ow el pc pl 9 S = pc := by unfold gNew gu; simp
theorem gNew_10 {g : GH} {S m ow el pc pl : Nat} : gNew g S m ow el pc pl 10 S = pl := by unfold gNew gu; simp
/-- openers stand one above the other -/
theorem op_lt {B C : AR} {g : GH} {S m d ow : Nat} (h : LVL B C g S m d ow) (hS : S ≤ 300) : ∀ (e' e o o' : Nat), 1 ≤ e → e < e' → e' ≤ d → B 14 e = nI o → o < S → B 14 e' = nI o' → o' < S → o < o' := by
  intro e'
  induction e' with
  | zero => intro e o o' h1 h2; omega
  | succ e' ih =>
    intro e o o' h1 h2 h3 h4 h5 h6 h7
    have q := h.2.1 (e' + 1) (by omega) h3
    rcases q with ⟨q1, -⟩ | ⟨o1, q1, q2, q3, -⟩
    · omega
    have e1 : o1 = o' := nIj (by omega) (by omega) (q1.symm.trans h6)
    subst e1
    have q3' : B 16 e' = nI o1 := q3
    rcases h.2.2 e' (by omega) with q | ⟨l, l1, l2, l3, l4, l5, l6⟩
    · rw [q3'] at q; exact absurd q (nIm1 (by omega))
    have e2 : l = o1 := nIj (by omega) (by omega) (l1.symm.trans q3')
    subst e2
    by_cases e3 : e = e'
    · subst e3; exact (l6 h1 o h5 h4).1
    · have q := h.2.1 e' (by omega) (by omega)
      rcases q with ⟨q1, -⟩ | ⟨o2, q4, q5, -⟩
      · omega
      have := ih e o o2 h1 (by omega) (by omega) h4 h5 q4 q5
      have := (l6 (by omega) o2 q5 q4).1
      omega
theorem OO_UU {B C : AR} {g : GH} {S m d ow s : Nat} {xo xu : Int32} (h : LVL B C g S m d ow) (hS : S ≤ 300) (hs : s < S) (hx : xo = nI s → UU B d xu s) (q : OO B d xo s) : UU B d xu s := by
  rcases q with ⟨e, h1, h2, h3⟩ | q
  · rcases h.2.1 e h1 h2 with ⟨q1, q2⟩ | ⟨o, q1, q2, q3, -⟩
    · subst q1; rw [h3] at q2; exact absurd q2 (nIm1 (by omega))
    · have e2 : o = s := nIj (by omega) (by omega) (q1.symm.trans h3)
      subst e2
      exact Or.inl ⟨e - 1, by omega, q3⟩
  · exact hx q
theorem AG_add {B B' C C' : AR} {g : GH} {S m d prc pl ow el pc : Nat} {kd pcI tg ck ct : Int32} {U : Nat → Prop} (hS : S < 300) (hb : ADDB B B' S d prc pl kd pcI tg) (hc : ADDC C C' m pl ck ct pcI) (hU : ∀ s, s < S → B 16 d = nI s → U s) (h0 : ∀ s, s < S → g 0 s < m) (h3 : ∀ s, s < S → ¬ OO B d (-1) s → g 6 s = 1 → g 3 s < m) (h1d : B 14 0 = -1) :
    AG B B' C C' g (gNew g S m ow el pc pl) S m (OO B d (-1)) U := by
  obtain ⟨⟨b2, b3, b4, b5, b9⟩, -, ⟨k8, -, -⟩, ⟨k6, -, -⟩, ⟨k7, -, -⟩, -⟩ := hb
  have nod : ∀ s, s < S → ¬ OO B d (-1) s → ¬ B 14 d = nI s := fun s hs ho z => by
    by_cases e : d = 0
    · rw [e, h1d] at z; exact nIm1 (by omega) z.symm
    · exact ho (Or.inl ⟨d, by omega, Nat.le_refl _, z⟩)
  refine ⟨fun s hs => ⟨fun hu => k8 s hs (fun z => hu (hU s hs z)), by rw [b5, pk_un (by omega)], by rw [b2, pk_un (by omega)], fun ho => ⟨k6 s hs (fun z => nod s hs ho z.1), k7 s hs (fun z => nod s hs ho z.1)⟩⟩, fun s hs => ?_, fun h hh => ?_, fun s hs ho => ?_⟩
  · have q : ∀ k, k ≠ 4 → gNew g S m ow el pc pl k s = g k s := fun k hk => gNew_old ⟨fun _ => by omega, fun z => absurd z hk⟩
    exact ⟨q 0 (by decide), q 2 (by decide), q 7 (by decide), fun _ => ⟨q 1 (by decide), q 6 (by decide)⟩, fun z => ⟨by rw [q 6 (by decide)]; exact z, q 3 (by decide)⟩⟩
  · refine ⟨by rw [hc.1, pk_un (by omega)], fun _ => by rw [hc.2.1, pk_un (by omega)], fun _ => gNew_old ⟨fun z => absurd rfl z, fun _ => by omega⟩, fun _ => ?_⟩
    unfold gNew gu; simp
  · have := h0 s hs
    exact ⟨by rw [hc.2.1, pk_un (by omega)], fun z => by have := h3 s hs ho z; rw [hc.2.1, pk_un (by omega)]⟩
