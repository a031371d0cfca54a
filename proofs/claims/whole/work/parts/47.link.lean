/-! ===== the ends of blocks are linked; how the reference's codes land ===== -/
def lkA (B : AR) : Nat → Nat → Int32
  | 0 => B 8
  | a + 1 => if lkA B a a = -1 ∧ ¬ B 5 a = -1 then upd (lkA B a) a (if B 2 (B 5 a).toNatClampNeg = 42 then B 5 a else lkA B a (B 5 a).toNatClampNeg) else lkA B a
theorem lkA_ge (B : AR) : ∀ {a s : Nat}, a ≤ s → lkA B a s = B 8 s := by
  intro a
  induction a with
  | zero => intro s _; rfl
  | succ a ih =>
    intro s hs
    unfold lkA
    split
    · rw [pk_un (by omega)]; exact ih (by omega)
    · exact ih (by omega)
theorem lkA_lt (B : AR) : ∀ {a s : Nat}, s < a → lkA B a s = lkA B (s + 1) s := by
  intro a
  induction a with
  | zero => intro s h; omega
  | succ a ih =>
    intro s hs
    by_cases e : s = a
    · subst e; rfl
    · have := ih (s := s) (by omega)
      rw [← this]
      rw [show lkA B (a + 1) = (if lkA B a a = -1 ∧ ¬ B 5 a = -1 then upd (lkA B a) a (if B 2 (B 5 a).toNatClampNeg = 42 then B 5 a else lkA B a (B 5 a).toNatClampNeg) else lkA B a) from rfl]
      split
      · rw [pk_un e]
      · rfl
theorem lkA_at {B : AR} {S s : Nat} (hs : s < S) : lkA B S s = if B 8 s = -1 ∧ ¬ B 5 s = -1 then (if B 2 (B 5 s).toNatClampNeg = 42 then B 5 s else lkA B s (B 5 s).toNatClampNeg) else B 8 s := by
  rw [lkA_lt B hs, show lkA B (s + 1) = (if lkA B s s = -1 ∧ ¬ B 5 s = -1 then upd (lkA B s) s (if B 2 (B 5 s).toNatClampNeg = 42 then B 5 s else lkA B s (B 5 s).toNatClampNeg) else lkA B s) from rfl, lkA_ge B (Nat.le_refl s)]
  split
  · rw [pk_us]
  · exact lkA_ge B (Nat.le_refl s)
theorem s_linkLoop {σ : S9} {S : Nat} {F : S9 → Prop} (h4 : σ.1 4 = nI S) (hS : S ≤ 300) (hp : ∀ s, s < S → σ.2.1 8 s = -1 → σ.2.1 5 s = -1 ∨ ∃ p : Nat, p < s ∧ σ.2.1 5 s = nI p) (k : F (sA σ 8 (lkA σ.2.1 S))) : ∀ (d a : Nat), a + d = S → lp_X6_linkBlockEnds_b2 F (d + 1) (nI a) (sA σ 8 (lkA σ.2.1 a)) := by
  intro d
  induction d with
  | zero =>
    intro a ha
    have e : a = S := by omega
    subst e
    show bd_X6_linkBlockEnds_b2 _ F (nI a) _
    unfold bd_X6_linkBlockEnds_b2
    rw [show (sA σ 8 (lkA σ.2.1 a)).1 4 = nI a from h4]
    exact br_t (nI_le (Nat.le_refl _) (by omega)) k
  | succ d ih =>
    intro a ha
    have step := ih (a + 1) (by omega)
    show bd_X6_linkBlockEnds_b2 (lp_X6_linkBlockEnds_b2 F (d + 1)) F (nI a) _
    unfold bd_X6_linkBlockEnds_b2
    have hin : vp_in (nI a) 300 := pk_in a 300 (by omega)
    rw [show (sA σ 8 (lkA σ.2.1 a)).1 4 = nI S from h4, nI_clamp (by omega), show (sA σ 8 (lkA σ.2.1 a)).2.1 5 = σ.2.1 5 from rfl, show (sA σ 8 (lkA σ.2.1 a)).2.1 8 = lkA σ.2.1 a from rfl, show (sA σ 8 (lkA σ.2.1 a)).2.1 2 = σ.2.1 2 from rfl, nI_1]
    refine br_f (nI_ge (by omega) (by omega)) ⟨hin, nm_e ⟨hin, ?_⟩⟩
    have ud : lkA σ.2.1 (a + 1) = (if lkA σ.2.1 a a = -1 ∧ ¬ σ.2.1 5 a = -1 then upd (lkA σ.2.1 a) a (if σ.2.1 2 (σ.2.1 5 a).toNatClampNeg = 42 then σ.2.1 5 a else lkA σ.2.1 a (σ.2.1 5 a).toNatClampNeg) else lkA σ.2.1 a) := rfl
    have e8 : lkA σ.2.1 a a = σ.2.1 8 a := lkA_ge _ (Nat.le_refl _)
    refine br_c (fun z => br_c (fun z5 => nm_e ?_) (fun z5 => ?_)) (fun z => nm_e ?_)
    · rw [ud, if_neg (fun y => y.2 z5)] at step; exact step
    · obtain ⟨p, hp1, hp2⟩ := (hp a (by omega) (e8.symm.trans z)).resolve_left z5
      have hip : vp_in (σ.2.1 5 a) 300 := by rw [hp2]; exact pk_in p 300 (by omega)
      rw [ud, if_pos ⟨z, z5⟩] at step
      refine ⟨hip, br_c (fun z2 => ⟨hin, nm_e (nm_e ?_)⟩) (fun z2 => ⟨hip, hin, nm_e (nm_e ?_)⟩)⟩
      · rw [if_pos z2] at step
        have e : sA (sA σ 8 (lkA σ.2.1 a)) 8 (upd (lkA σ.2.1 a) a (σ.2.1 5 a)) = sA σ 8 (upd (lkA σ.2.1 a) a (σ.2.1 5 a)) := by
          unfold sA
          exact Prod.ext rfl (Prod.ext (vup_vup _ _ _ _) rfl)
        rw [e]; exact step
      · rw [if_neg z2] at step
        have e : sA (sA σ 8 (lkA σ.2.1 a)) 8 (upd (lkA σ.2.1 a) a (lkA σ.2.1 a (σ.2.1 5 a).toNatClampNeg)) = sA σ 8 (upd (lkA σ.2.1 a) a (lkA σ.2.1 a (σ.2.1 5 a).toNatClampNeg)) := by
          unfold sA
          exact Prod.ext rfl (Prod.ext (vup_vup _ _ _ _) rfl)
        rw [e]; exact step
    · rw [ud, if_neg (fun y => z y.1)] at step; exact step
theorem s_link2 {b σ : S9} {w : TL} {S : Nat} {F : S9 → Prop} (h : Cs b w σ) (h4 : b.1 4 = nI S) (hS : S ≤ 300) (hp : ∀ s, s < S → b.2.1 8 s = -1 → b.2.1 5 s = -1 ∨ ∃ p : Nat, p < s ∧ b.2.1 5 s = nI p) (k : ∀ σ', Cs (sA b 8 (lkA b.2.1 S)) w σ' → F σ') : wp_X6_linkBlockEnds σ F := by
  unfold wp_X6_linkBlockEnds
  refine nm_e ⟨S + 1, ?_⟩
  have r : ∀ k, k ≠ 17 → k ≠ 18 → σ.2.1 k = b.2.1 k := fun k q1 q2 => Cs_2 h q1 q2
  have e : ∀ a, lkA σ.2.1 a = lkA b.2.1 a := by
    intro a
    induction a with
    | zero => exact r 8 (by decide) (by decide)
    | succ a ih => unfold lkA; rw [ih, r 5 (by decide) (by decide), r 2 (by decide) (by decide)]
  have q := s_linkLoop (σ := σ) (F := F) (by rw [Cs_1 h (show (4 : Nat) ≠ 13 by decide)]; exact h4) hS (by rw [r 8 (by decide) (by decide), r 5 (by decide) (by decide)]; exact hp) (by rw [e]; exact k _ (Cs_sA h (by decide) (by decide) _)) S 0 (by omega)
  have e0 : sA σ 8 (lkA σ.2.1 0) = σ := by
    unfold sA
    refine Prod.ext rfl (Prod.ext ?_ rfl)
    funext j
    show va_up σ.2.1 8 (σ.2.1 8) j = σ.2.1 j
    by_cases ej : j = 8
    · rw [ej, vup_self]
    · rw [vup_ne ej]
  rw [e0] at q
  exact q
/-! where the reference lands from a code -/
def JF (C : AR) (M : Nat) : Nat → Nat → Nat → Prop
  | 0, h, h' => h = h' ∧ h < M
  | k + 1, h, h' => h < M ∧ C 6 h = 11 ∧ ∃ t : Nat, C 7 h = nI t ∧ JF C M k t h'
def LND (C : AR) (g : GH) (S M h ow : Nat) (x : Int32) : Prop := ∃ k h', JF C M k h h' ∧ ((∃ t : Nat, x = nI t ∧ t < S ∧ h' = g 0 t ∧ g 2 t = ow) ∨ (x = -1 ∧ ow < 26 ∧ C 6 h' = 12) ∨ (x = -1 ∧ ow = 26 ∧ C 6 h' = 13))
theorem LND_jump {C : AR} {g : GH} {S M h t ow : Nat} {x : Int32} (hM : h < M) (h6 : C 6 h = 11) (h7 : C 7 h = nI t) (q : LND C g S M t ow x) : LND C g S M h ow x := by
  obtain ⟨k, h', q1, q2⟩ := q
  exact ⟨k + 1, h', ⟨hM, h6, t, h7, q1⟩, q2⟩
theorem LND_step {C : AR} {g : GH} {S M t ow : Nat} (ht : t < S) (hM : g 0 t < M) (ho : g 2 t = ow) : LND C g S M (g 0 t) ow (nI t) := ⟨0, g 0 t, ⟨rfl, hM⟩, Or.inl ⟨t, rfl, ht, rfl, ho⟩⟩
theorem JF_of {C C' : AR} {g : GH} {m : Nat} (h6 : ∀ h, h < m → C' 6 h = C 6 h) (h7 : ∀ h, h < m → C' 7 h = C 7 h) : ∀ {k h h' : Nat}, h' ≤ m → JC C g k h h' → ∀ {n h2 : Nat}, JF C' (m + 1) n h' h2 → JF C' (m + 1) (k + n) h h2 := by
  intro k
  induction k with
  | zero =>
    intro h h' hm q n h2 z
    have e : h = h' := q
    subst e
    rw [Nat.zero_add]; exact z
  | succ k ih =>
    intro h h' hm q n h2 z
    obtain ⟨q1, q2, t, q3, q4, q5⟩ := q
    have := JC_le q5
    rw [show k + 1 + n = (k + n) + 1 by omega]
    exact ⟨by omega, by rw [h6 h (by omega)]; exact q1, t, by rw [h7 h (by omega)]; exact q3, ih hm q5 z⟩
theorem LND_JJ {C C' : AR} {g : GH} {S m h h' ow : Nat} {x : Int32} (h6 : ∀ h, h < m → C' 6 h = C 6 h) (h7 : ∀ h, h < m → C' 7 h = C 7 h) (q : JJ C g m h h') (z : LND C' g S (m + 1) h' ow x) : LND C' g S (m + 1) h ow x := by
  obtain ⟨q1, k, q2⟩ := q
  obtain ⟨n, h2, z1, z2⟩ := z
  exact ⟨k + n, h2, JF_of h6 h7 q1 q2 z1, z2⟩
/-- the program, as both sides run it -/
def PG (B C : AR) (g : GH) (S M pl : Nat) : Prop := (S ≤ 300) ∧ (M ≤ 1200) ∧ (pl ≤ 3000) ∧ (∀ s, s < S → SSs B C g s) ∧ (∀ s t, s < t → t < S → g 9 s < g 9 t) ∧ (∀ s, s < S → CDs B C g s ∧ g 10 s ≤ pl) ∧ (∀ k, k < pl → C 12 k = mk (B 10 k) ∧ C 13 k = B 11 k ∧ okS (B 10 k) ∧ (B 10 k = 97 → ∃ p : Nat, p < 26 ∧ B 11 k = nI p)) ∧ (∀ s, s < S → g 0 s + 1 < M) ∧ (∀ s, s < S → ¬ B 2 s = 42 → ¬ B 2 s = 63 → LND C g S M (g 0 s + 1) (g 2 s) (B 8 s)) ∧ (∀ s, s < S → B 2 s = 65 → ∃ q e ow : Nat, q < 26 ∧ B 4 s = nI q ∧ C 7 (g 0 s) = nI e ∧ e < M ∧ ow < g 2 s ∧ LND C g S M e ow (B 12 q)) ∧ (∀ s, s < S → B 2 s = 42 → LND C g S M (g 0 s + 1) (g 2 s) (if B 6 s = -1 then nI s else B 6 s) ∧ ∃ e : Nat, C 7 (g 0 s) = nI e ∧ LND C g S M e (g 2 s) (B 8 s)) ∧ (∀ s, s < S → B 2 s = 63 → LND C g S M (g 0 s + 1) (g 2 s) (if B 6 s = -1 then B 8 s else B 6 s) ∧ ∃ e : Nat, C 7 (g 0 s) = nI e ∧ LND C g S M e (g 2 s) (if B 7 s = -1 then B 8 s else B 7 s)) ∧ (LND C g S M 0 26 (B 12 26)) ∧ (∀ h, h < M → (∃ s, s < S ∧ h = g 0 s) ∨ C 10 h = -1)
theorem PG.sl {B C : AR} {g : GH} {S M pl : Nat} (h : PG B C g S M pl) : S ≤ 300 := h.1
theorem PG.ml {B C : AR} {g : GH} {S M pl : Nat} (h : PG B C g S M pl) : M ≤ 1200 := h.2.1
theorem PG.ps {B C : AR} {g : GH} {S M pl : Nat} (h : PG B C g S M pl) : pl ≤ 3000 := h.2.2.1
theorem PG.ss {B C : AR} {g : GH} {S M pl : Nat} (h : PG B C g S M pl) : ∀ s, s < S → SSs B C g s := h.2.2.2.1
theorem PG.po {B C : AR} {g : GH} {S M pl : Nat} (h : PG B C g S M pl) : ∀ s t, s < t → t < S → g 9 s < g 9 t := h.2.2.2.2.1
theorem PG.cd {B C : AR} {g : GH} {S M pl : Nat} (h : PG B C g S M pl) : ∀ s, s < S → CDs B C g s ∧ g 10 s ≤ pl := h.2.2.2.2.2.1
theorem PG.mk {B C : AR} {g : GH} {S M pl : Nat} (h : PG B C g S M pl) : ∀ k, k < pl → C 12 k = mk (B 10 k) ∧ C 13 k = B 11 k ∧ okS (B 10 k) ∧ (B 10 k = 97 → ∃ p : Nat, p < 26 ∧ B 11 k = nI p) := h.2.2.2.2.2.2.1
theorem PG.gm {B C : AR} {g : GH} {S M pl : Nat} (h : PG B C g S M pl) : ∀ s, s < S → g 0 s + 1 < M := h.2.2.2.2.2.2.2.1
theorem PG.nx {B C : AR} {g : GH} {S M pl : Nat} (h : PG B C g S M pl) : ∀ s, s < S → ¬ B 2 s = 42 → ¬ B 2 s = 63 → LND C g S M (g 0 s + 1) (g 2 s) (B 8 s) := h.2.2.2.2.2.2.2.2.1
theorem PG.ca {B C : AR} {g : GH} {S M pl : Nat} (h : PG B C g S M pl) : ∀ s, s < S → B 2 s = 65 → ∃ q e ow : Nat, q < 26 ∧ B 4 s = nI q ∧ C 7 (g 0 s) = nI e ∧ e < M ∧ ow < g 2 s ∧ LND C g S M e ow (B 12 q) := h.2.2.2.2.2.2.2.2.2.1
theorem PG.lp {B C : AR} {g : GH} {S M pl : Nat} (h : PG B C g S M pl) : ∀ s, s < S → B 2 s = 42 → LND C g S M (g 0 s + 1) (g 2 s) (if B 6 s = -1 then nI s else B 6 s) ∧ ∃ e : Nat, C 7 (g 0 s) = nI e ∧ LND C g S M e (g 2 s) (B 8 s) := h.2.2.2.2.2.2.2.2.2.2.1
theorem PG.cn {B C : AR} {g : GH} {S M pl : Nat} (h : PG B C g S M pl) : ∀ s, s < S → B 2 s = 63 → LND C g S M (g 0 s + 1) (g 2 s) (if B 6 s = -1 then B 8 s else B 6 s) ∧ ∃ e : Nat, C 7 (g 0 s) = nI e ∧ LND C g S M e (g 2 s) (if B 7 s = -1 then B 8 s else B 7 s) := h.2.2.2.2.2.2.2.2.2.2.2.1
theorem PG.mn {B C : AR} {g : GH} {S M pl : Nat} (h : PG B C g S M pl) : LND C g S M 0 26 (B 12 26) := h.2.2.2.2.2.2.2.2.2.2.2.2.1
theorem PG.cp {B C : AR} {g : GH} {S M pl : Nat} (h : PG B C g S M pl) : ∀ h, h < M → (∃ s, s < S ∧ h = g 0 s) ∨ C 10 h = -1 := h.2.2.2.2.2.2.2.2.2.2.2.2.2
theorem par_ok {b c : S9} {g : GH} {S m d np T wp : Nat} {xo xu : Int32} (h : SM b c g S m 0 np T (-1) (-1) wp) : ∀ s, s < S → b.2.1 8 s = -1 → b.2.1 5 s = -1 ∨ ∃ p : Nat, p < s ∧ b.2.1 5 s = nI p := by
  intro s hs h8
  have hS := h.num.2.1
  rcases h.st.1 s hs with q | q
  · rcases q with ⟨e, e1, e2⟩ | q
    · have e0 : e = 0 := by omega
      subst e0
      obtain ⟨-, -, q3⟩ := ow_get h hS hs e2
      rw [h.lv.1] at q3
      exact Or.inl q3
    · exact absurd q.symm (nIm1 (by omega))
  · rcases q with ⟨t, q1, q2, q3, -⟩ | ⟨-, ⟨q, -⟩ | ⟨p, q1, q2, -⟩⟩
    · rw [h8] at q1; exact absurd q1.symm (nIm1 (by omega))
    · exact Or.inl q
    · exact Or.inr ⟨p, q2, q1⟩
