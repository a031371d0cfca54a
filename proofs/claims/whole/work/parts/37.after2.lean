/-! ===== behind a first block ===== -/
theorem no_opener {b c : S9} {g : GH} {S m d np T wp pr pj s : Nat} {xo xu : Int32} (h : SM b c g S m d np T xo xu wp) (hdf : DF b c g S m d np pr pj xo) (hS : S ≤ 300) (hs : s < S) (hl : b.2.1 16 d = nI s) {e : Nat} (h1 : 1 ≤ e) (h2 : e ≤ d) : ¬ b.2.1 14 e = nI s := by
  intro z
  rcases lv15 h h1 h2 with ⟨q, -⟩ | ⟨o, q1, q2, q3, -⟩
  · rw [z] at q; exact absurd q (nIm1 (by omega))
  · have e1 := nIj (by omega) (by omega) (q2.symm.trans z)
    subst e1
    exact LS_ne h.lv hS (SM_np h hdf) (show e - 1 < d by omega) q1 q3 hl
def mTgt (c : S9) (h m : Nat) : S9 := sA c 7 (upd (c.2.1 7) h (nI m))
/-- no else follows -/
theorem w_noElse {b c : S9} {g : GH} {S m d np pl pr pj p j s : Nat} {kd : Int32} {xu : Int32} (h : R1 b c g S m d np pl pr pj p s xu) (hw : wd c j kd) (hk : ¬ kd = 158) :
    ∃ (c' : S9) (g' : GH), R0 b c' g' S m d np pl pr pj p ∧ WFc c c' ∧ c'.1 3 = c.1 3 ∧ c'.1 4 = c.1 4 ∧ FF c c' ∧ BS b.2.1 g' pj pr d = BS b.2.1 g pj pr d ∧ ∀ Ψ : Int32 → S9 → Prop, MG c' (BS b.2.1 g pj pr d) Ψ → MG c ((15, nI (g 0 s)) :: BS b.2.1 g pj pr d) Ψ := by
  obtain ⟨n1, n2, n3, n4, n5, n6, n7, n8, n9, n10, n11⟩ := h.sm.num
  have hm := RM_m h.rm n2 n9
  have hsl := h.sl
  have hst0 := h.sm.st
  have hg0 := (hst0.2.2.1 s hsl).1
  have hOs : OO b.2.1 d (nI s) s := Or.inr rfl
  have hmv : MV b b c (mTgt c (g 0 s) m) g (gu g 1 s m) S m m d np S p p (fun x => x = g 0 s) := by
    refine ⟨Nat.le_refl _, Nat.le_refl _, rfl, rfl, rfl, rfl, rfl, rfl, rfl, rfl, fun _ _ => rfl, fun x hx hn => pk_un hn, fun _ _ => ⟨rfl, rfl, rfl, rfl⟩, fun x h1 h2 => by omega, ⟨rfl, rfl⟩, fun t ht => ⟨gu_k (by decide), gu_k (by decide), gu_k (by decide), gu_k (by decide), gu_k (by decide)⟩, fun q hq h1 => ⟨h1, rfl, gu_k (by decide), rfl, rfl⟩, fun t ht e => ?_⟩
    have := g0_inj hst0 ht hsl e
    subst this
    rw [h.k2]; exact ⟨by decide, by decide⟩
  have hag : AG b.2.1 b.2.1 c.2.1 (mTgt c (g 0 s) m).2.1 g (gu g 1 s m) S m (OO b.2.1 d (nI s)) (UU b.2.1 d xu) := by
    refine AG_of hst0 hmv (fun t ht ho => ⟨gu_i (fun e => ho (by rw [e]; exact hOs)), gu_k (by decide)⟩) (fun t ht z => ⟨by rw [gu_k (by decide)]; exact z, gu_k (by decide)⟩) (fun x hx _ => gu_k (by decide)) (fun x hx _ => gu_k (by decide)) (fun x hx e => ?_) (fun t ht ho => ⟨fun e => ?_, fun z e => ?_⟩)
    · rw [e, (hst0.2.2.1 s hsl).2]; omega
    · exact ho (by rw [g0_inj hst0 ht hsl e]; exact hOs)
    · rcases hst0.2.1 t ht with q | q
      · exact ho q
      · have := (CLP_jp q z).2.2.2.2.1
        rw [e, (hst0.2.2.1 s hsl).2] at this
        omega
  have nop : ∀ e, 1 ≤ e → e ≤ d → ¬ b.2.1 14 e = nI s := fun e h1 h2 => no_opener h.sm h.df n2 hsl h.ls h1 h2
  have nOs : ¬ OO b.2.1 d (-1) s := fun z => by
    rcases z with ⟨e, h1, h2, h3⟩ | z
    · exact nop e h1 h2 h3
    · exact nIm1 (by omega) z.symm
  have hst := ST_step (O' := OO b.2.1 d (-1)) (U' := UU b.2.1 d (-1)) hst0 hag (m' := m) (Nat.le_refl _) (fun t ht z => by
      rcases z with z | z
      · exact Or.inl z
      · exact absurd z.symm (nIm1 (by omega))) (OO_UU2 h.sm n2 hsl (Or.inr ⟨rfl, h.ls⟩)) (fun t ht z => by
      rcases z with z | z
      · exact Or.inl (Or.inl z)
      · rcases h.cl with ⟨e, -⟩ | ⟨t', e, q1, q2, q3, q4, q5, q6, q7, q8⟩
        · rw [e] at z; exact absurd z.symm (nIm1 (by omega))
        · have e2 := nIj (by omega) (by omega) (e.symm.trans z)
          subst e2
          refine Or.inr (Or.inr ⟨q2, Or.inr ⟨s, q3, q4, ?_, Or.inr ⟨h.k2, Or.inr ⟨nOs, Or.inl ?_, ?_⟩⟩⟩⟩)
          · rw [gu_k (show (2 : Nat) ≠ 1 by decide), gu_k (show (2 : Nat) ≠ 1 by decide)]; exact q5.symm
          · rw [gu_k (show (6 : Nat) ≠ 1 by decide)]; exact h.g6
          · rw [gu_i (by omega), gu_s]; exact q7) (fun t ht z => by
      rcases z with z | z
      · exact Or.inl (Or.inl z)
      · have e2 := nIj (by omega) (by omega) z
        subst e2
        refine Or.inr ⟨by rw [gu_s]; omega, Or.inr (Or.inl ⟨h.k2, by rw [gu_k (show (6 : Nat) ≠ 1 by decide)]; exact h.g6, h.b7, ?_, ?_⟩)⟩
        · rw [gu_k (show (0 : Nat) ≠ 1 by decide), gu_s]; exact pk_us
        · rw [gu_s, gu_k (show (0 : Nat) ≠ 1 by decide)]
          rcases h.cl with ⟨-, e1, e2⟩ | ⟨t', -, -, -, -, -, -, -, -, q8⟩
          · exact Or.inl ⟨e1, e2.symm⟩
          · obtain ⟨t, y1, y2, y3, y4, y5⟩ := q8
            exact Or.inr ⟨t, y1, y2, y3, by rw [gu_k (by decide), gu_k (by decide)]; exact y4, by rw [gu_k (by decide), gu_k (by decide)]; exact y5⟩) (fun t ht => by
      rw [gu_k (show (0 : Nat) ≠ 1 by decide), gu_k (show (4 : Nat) ≠ 1 by decide)]; exact (hst0.2.2.1 t ht).2)
  have hlv := LVL_move (B' := b.2.1) (C' := (mTgt c (g 0 s) m).2.1) (g' := gu g 1 s m) (m' := m) h.sm.lv n2 (Nat.le_refl _) (fun _ => rfl) (Nat.le_refl _) (fun _ _ => ⟨rfl, rfl, rfl⟩) rfl rfl rfl rfl rfl hmv.c6 (fun s hs => ⟨gu_k (by decide), gu_k (by decide), gu_k (by decide)⟩) (fun e o h1 h2 h3 h4 => ⟨gu_k (by decide), gu_k (by decide), pk_un (fun z => nop e h1 h2 (by rw [h4, g0_inj hst0 h3 hsl z])), fun _ => ⟨gu_k (by decide), gu_k (by decide)⟩⟩)
  have hn : NUM b (mTgt c (g 0 s) m) S m d np := ⟨n1, n2, n3, n4, n5, n6, n7, n8, n9, n10, n11⟩
  have hsm := SM_move h.sm hmv hn hst hlv (PD_move h.sm.pd hmv rfl rfl) h.sm.cnt
  have hdf : DF b (mTgt c (g 0 s) m) (gu g 1 s m) S m d np pr pj (-1) := by
    refine ⟨fun z => ?_, fun z => ?_⟩
    · have i := h.df.1 z
      refine DI_move i hmv hag rfl rfl rfl rfl (fun _ _ => rfl) (fun l hl h0 => ?_) (fun x hx z4 => ⟨hx, by rw [gu_k (by decide)] at z4; exact z4⟩) (by rw [gu_k (by decide)]; exact i.jk)
      have q := (i.ml l hl h0).2
      exact ⟨gu_i (fun e => q (by rw [e]; exact hOs)), fun y => q (by
        rcases y with y | y
        · exact Or.inl y
        · exact absurd y.symm (nIm1 (by omega)))⟩
    · exact DN_move (h.df.2 z) hmv hag rfl rfl rfl rfl (fun x hx z4 => ⟨hx, by rw [gu_k (by decide)] at z4; exact z4⟩)
  have hpn := PN0_last hdf n2 hsl h.ls gu_s
  have hrm : RM b.2.1 S m d np 0 := by
    have := h.rm
    unfold RM at this ⊢
    omega
  refine ⟨mTgt c (g 0 s) m, gu g 1 s m, ⟨hsm, MR_move h.mr hmv rfl rfl rfl, hpn, hdf, hrm, h.o7⟩, ⟨fun _ _ => rfl, rfl, rfl, rfl, rfl, rfl⟩, rfl, rfl, ⟨⟨rfl, rfl, rfl, rfl, rfl⟩, rfl, rfl⟩, ?_, fun Ψ k => ?_⟩
  · exact BS_eq h.sm n2 (Nat.le_refl _) (fun _ _ _ => rfl) (fun _ _ _ => rfl) (fun _ _ => rfl) (fun _ _ => gu_k (by decide)) (fun _ _ _ _ _ _ _ => gu_k (by decide))
  · obtain ⟨w1, w2, w3, w4⟩ := hw
    have hbl := bsT_len b.2.1 g (32 * pj + pr) d
    refine mg_out w4 (by unfold BS; omega) ⟨by decide, Or.inr (by decide)⟩ (fun τ K hτ kk => ?_) k
    unfold wp_X11_doOuter
    refine br_f (by decide) (br_f (by decide) (br_f (by decide) (br_f (by decide) (br_t rfl (s_sees hτ w1 (by omega) (fun e => absurd (w3.symm.trans e) hk) (fun _ => br_t rfl ⟨pk_in (g 0 s) 1200 (by omega), nm_e ?_⟩))))))
    rw [nI_clamp (by omega), St_1 hτ (show (11 : Nat) ≠ 5 by decide), St_2 hτ (show (7 : Nat) ≠ 4 by decide) (by decide), n10]
    exact kk _ (St_sA hτ (by decide) (by decide) _)
/-- an else follows -/
def mElse (c : S9) (h m j : Nat) : S9 := sA (mCode (sF c 3 (nI (j + 1))) 11 0 (-1) m) 7 (upd (upd (c.2.1 7) m 0) h (nI (m + 1)))
theorem w_else {b c : S9} {g : GH} {S m d np pl pr pj p j s : Nat} {xu : Int32} (h : R1 b c g S m d np pl pr pj p s xu) (hw : wd c j 158) :
    ∃ (c' : S9) (g' : GH), R7 b c' g' S (m + 1) d np pl pr pj (p + 1) s ∧ WFc c c' ∧ c'.1 3 = nI (j + 1) ∧ c'.1 4 = -1 ∧ BS b.2.1 g' pj pr d = BS b.2.1 g pj pr d ∧ g' 3 s = m ∧ ∀ Ψ : Int32 → S9 → Prop, MG c' ((3, 0) :: (16, nI m) :: BS b.2.1 g pj pr d) Ψ → MG c ((15, nI (g 0 s)) :: BS b.2.1 g pj pr d) Ψ := by
  obtain ⟨n1, n2, n3, n4, n5, n6, n7, n8, n9, n10, n11⟩ := h.sm.num
  have hm := RM_m h.rm n2 n9
  have hsl := h.sl
  have hst0 := h.sm.st
  have hg0 := (hst0.2.2.1 s hsl).1
  have hOs : OO b.2.1 d (nI s) s := Or.inr rfl
  obtain ⟨g', hg'⟩ : ∃ g', g' = gu (gu (gu (gu g 6 s 1) 3 s m) 4 m 2) 5 m s := ⟨_, rfl⟩
  have k0 : ∀ k i, k ≠ 6 → k ≠ 3 → k ≠ 4 → k ≠ 5 → g' k i = g k i := fun k i e1 e2 e3 e4 => by rw [hg', gu_k e4, gu_k e3, gu_k e2, gu_k e1]
  have k6 : ∀ i, i ≠ s → g' 6 i = g 6 i := fun i hi => by rw [hg', gu_k (by decide), gu_k (by decide), gu_k (by decide), gu_i hi]
  have k6s : g' 6 s = 1 := by rw [hg', gu_k (by decide), gu_k (by decide), gu_k (by decide), gu_s]
  have k3 : ∀ i, i ≠ s → g' 3 i = g 3 i := fun i hi => by rw [hg', gu_k (by decide), gu_k (by decide), gu_i hi, gu_k (by decide)]
  have k3s : g' 3 s = m := by rw [hg', gu_k (by decide), gu_k (by decide), gu_s]
  have k4 : ∀ i, i ≠ m → g' 4 i = g 4 i := fun i hi => by rw [hg', gu_k (by decide), gu_i hi, gu_k (by decide), gu_k (by decide)]
  have k4m : g' 4 m = 2 := by rw [hg', gu_k (by decide), gu_s]
  have k5 : ∀ i, i ≠ m → g' 5 i = g 5 i := fun i hi => by rw [hg', gu_i hi, gu_k (by decide), gu_k (by decide), gu_k (by decide)]
  have k5m : g' 5 m = s := by rw [hg', gu_s]
  have z0 : ∀ i, g' 0 i = g 0 i := fun i => k0 0 i (by decide) (by decide) (by decide) (by decide)
  have z1 : ∀ i, g' 1 i = g 1 i := fun i => k0 1 i (by decide) (by decide) (by decide) (by decide)
  have z2 : ∀ i, g' 2 i = g 2 i := fun i => k0 2 i (by decide) (by decide) (by decide) (by decide)
  have z7 : ∀ i, g' 7 i = g 7 i := fun i => k0 7 i (by decide) (by decide) (by decide) (by decide)
  have C7 : ∀ x, x < m → ¬ x = g 0 s → (mElse c (g 0 s) m j).2.1 7 x = c.2.1 7 x := fun x hx hn => by
    show upd (upd (c.2.1 7) m 0) (g 0 s) _ x = _
    rw [pk_un hn, pk_un (by omega)]
  have hmv : MV b b c (mElse c (g 0 s) m j) g g' S m (m + 1) d np S p (p + 1) (fun x => x = g 0 s) := by
    refine ⟨by omega, by omega, rfl, rfl, rfl, rfl, rfl, rfl, rfl, rfl, fun x hx => pk_un (by omega), C7, fun x hx => ⟨pk_un (by omega), pk_un (by omega), pk_un (by omega), pk_un (by omega)⟩, fun x h1 h2 => ?_, ⟨rfl, rfl⟩, fun t ht => ⟨z0 t, z2 t, z7 t, k0 9 t (by decide) (by decide) (by decide) (by decide), k0 10 t (by decide) (by decide) (by decide) (by decide)⟩, fun q hq h1 => ⟨h1, rfl, k0 8 q (by decide) (by decide) (by decide) (by decide), rfl, rfl⟩, fun t ht e => ?_⟩
    · have e : x = m := by omega
      subst e; exact pk_us
    · have := g0_inj hst0 ht hsl e
      subst this
      rw [h.k2]; exact ⟨by decide, by decide⟩
  have g6ne : ∀ t, g 6 t = 1 → t ≠ s := fun t z e => by rw [e, h.g6] at z; omega
  have hag : AG b.2.1 b.2.1 c.2.1 (mElse c (g 0 s) m j).2.1 g g' S m (OO b.2.1 d (nI s)) (UU b.2.1 d xu) := by
    refine AG_of hst0 hmv (fun t ht ho => ⟨z1 t, k6 t (fun e => ho (by rw [e]; exact hOs))⟩) (fun t ht z => ⟨by rw [k6 t (g6ne t z)]; exact z, k3 t (g6ne t z)⟩) (fun x hx _ => k4 x (by omega)) (fun x hx _ => k5 x (by omega)) (fun x hx e => ?_) (fun t ht ho => ⟨fun e => ?_, fun z e => ?_⟩)
    · rw [e, (hst0.2.2.1 s hsl).2]; omega
    · exact ho (by rw [g0_inj hst0 ht hsl e]; exact hOs)
    · rcases hst0.2.1 t ht with q | q
      · exact ho q
      · have := (CLP_jp q z).2.2.2.2.1
        rw [e, (hst0.2.2.1 s hsl).2] at this
        omega
  have nop : ∀ e, 1 ≤ e → e ≤ d → ¬ b.2.1 14 e = nI s := fun e h1 h2 => no_opener h.sm h.df n2 hsl h.ls h1 h2
  have hst := ST_step (O' := OO b.2.1 d (nI s)) (U' := UU b.2.1 d (-1)) hst0 hag (m' := m + 1) (by omega) (fun t ht z => z) (OO_UU2 h.sm n2 hsl (Or.inr ⟨rfl, h.ls⟩)) (fun t ht z => by
      rcases z with z | z
      · exact Or.inl (Or.inl z)
      · rcases h.cl with ⟨e, -⟩ | ⟨t', e, q1, q2, q3, q4, q5, q6, q7, q8⟩
        · rw [e] at z; exact absurd z.symm (nIm1 (by omega))
        · have e2 := nIj (by omega) (by omega) (e.symm.trans z)
          subst e2
          exact Or.inr (Or.inr ⟨q2, Or.inr ⟨s, q3, q4, by rw [z2, z2]; exact q5.symm, Or.inr ⟨h.k2, Or.inl ⟨k6s, by rw [z7]; exact q6, by rw [z1, k3s]; exact q7⟩⟩⟩⟩)) (fun t ht z => Or.inl z) (fun t ht => by
      have := (hst0.2.2.1 t ht)
      rw [z0, k4 _ (by omega)]; exact this.2)
  have hlv := LVL_move (B' := b.2.1) (C' := (mElse c (g 0 s) m j).2.1) (g' := g') (m' := m + 1) h.sm.lv n2 (Nat.le_refl _) (fun _ => rfl) (by omega) (fun _ _ => ⟨rfl, rfl, rfl⟩) rfl rfl rfl rfl rfl hmv.c6 (fun s hs => ⟨z0 s, z2 s, z7 s⟩) (fun e o h1 h2 h3 h4 => by
      have hne : o ≠ s := fun z => nop e h1 h2 (by rw [← z]; exact h4)
      refine ⟨k6 o hne, k3 o hne, C7 _ (hst0.2.2.1 o h3).1 (fun z => hne (g0_inj hst0 h3 hsl z)), fun z => ?_⟩
      rcases lv15 h.sm h1 h2 with ⟨q, -⟩ | ⟨o', q1, q2, -, q3⟩
      · rw [h4] at q; exact absurd q (nIm1 (by omega))
      · have e2 := nIj (by omega) (by omega) (q2.symm.trans h4)
        subst e2
        rcases q3 with ⟨-, -, r, -⟩ | ⟨-, -, r, -⟩
        · omega
        · have := r.2.2.1
          exact ⟨k4 _ (by omega), k5 _ (by omega)⟩)
  have hn : NUM b (mElse c (g 0 s) m j) S (m + 1) d np := ⟨n1, n2, n3, n4, n5, n6, n7, n8, n9, rfl, n11⟩
  have hsm := SM_move h.sm hmv hn hst hlv (PD_move h.sm.pd hmv rfl rfl) h.sm.cnt
  have gn : ∀ x, x < m + 1 → g' 4 x = 4 → x < m ∧ g 4 x = 4 := fun x hx z4 => by
    by_cases e : x = m
    · rw [e, k4m] at z4; omega
    · rw [k4 x e] at z4; exact ⟨by omega, z4⟩
  have hdf : DF b (mElse c (g 0 s) m j) g' S (m + 1) d np pr pj (nI s) := by
    refine ⟨fun z => ?_, fun z => ?_⟩
    · have i := h.df.1 z
      exact DI_move i hmv hag rfl rfl rfl rfl (fun _ _ => rfl) (fun l hl h0 => ⟨z1 l, (i.ml l hl h0).2⟩) gn (by rw [k4 pj (by have := i.jm; omega)]; exact i.jk)
    · exact DN_move (h.df.2 z) hmv hag rfl rfl rfl rfl gn
  have hel : ELok b.2.1 (mElse c (g 0 s) m j).2.1 g' S (m + 1) s := by
    refine ⟨k6s, by rw [z0, k3s]; exact hg0, by rw [k3s]; omega, by rw [k3s]; exact pk_us, by rw [k3s]; exact k4m, by rw [k3s]; exact k5m, by rw [z0, k3s]; exact pk_us, ?_⟩
    rcases h.cl with ⟨-, e1, e2⟩ | ⟨t', -, -, -, -, -, -, -, -, q8⟩
    · exact Or.inl ⟨e1, by rw [k3s, z0]; exact e2.symm⟩
    · obtain ⟨t, y1, y2, y3, y4, y5⟩ := q8
      exact Or.inr ⟨t, y1, y2, y3, by rw [z0, z0]; exact y4, by rw [z2, z2]; exact y5⟩
  have hrm : RM b.2.1 S (m + 1) d np 0 := by
    have := h.rm
    unfold RM at this ⊢
    omega
  refine ⟨mElse c (g 0 s) m j, g', ⟨hsm, MR_move h.mr hmv rfl rfl rfl, hdf, hrm, h.o7, hsl, h.ls, h.k2, hel, h.b7, by rw [k3s]⟩, ⟨fun k hk => ?_, rfl, rfl, rfl, rfl, rfl⟩, rfl, n11, ?_, k3s, fun Ψ k => ?_⟩
  · show upd (upd c.1 3 _) 11 _ k = _
    rw [pk_un (by omega), pk_un (by omega)]
  · exact BS_eq h.sm n2 (Nat.le_refl _) (fun _ _ _ => rfl) (fun _ _ _ => rfl) (fun _ _ => rfl) (fun _ _ => z0 _) (fun e o h1 h2 h3 h4 _ => k3 o (fun z => nop e h1 h2 (by rw [← z]; exact h4)))
  · obtain ⟨w1, w2, w3, w4⟩ := hw
    have hbl := bsT_len b.2.1 g (32 * pj + pr) d
    refine mg_out w4 (by unfold BS; omega) ⟨by decide, Or.inr (by decide)⟩ (fun τ K hτ kk => ?_) k
    unfold wp_X11_doOuter
    refine br_f (by decide) (br_f (by decide) (br_f (by decide) (br_f (by decide) (br_t rfl (s_sees hτ w1 (by omega) (fun _ => br_f (by decide) (nm_e ?_)) (fun e => absurd w3 e))))))
    rw [St_1 hτ (show (3 : Nat) ≠ 5 by decide), w1, nI_1]
    refine s_code (m := m) (St_sF hτ (show (3 : Nat) ≠ 5 by decide) (nI (j + 1))) n10 (by omega) (fun τ1 h1 => s_come h1 (by unfold BS; omega) (fun τ2 h2 => s_come h2 (by unfold BS; simp only [List.length_cons]; omega) (fun τ3 h3 => ⟨pk_in (g 0 s) 1200 (by omega), nm_e ?_⟩)))
    rw [nI_clamp (by omega), St_1 h3 (show (11 : Nat) ≠ 5 by decide), St_2 h3 (show (7 : Nat) ≠ 4 by decide) (by decide)]
    exact kk _ (St_sA h3 (by decide) (by decide) _)
