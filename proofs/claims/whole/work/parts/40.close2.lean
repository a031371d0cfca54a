/-! ===== a definition is closed; closing on both sides ===== -/
theorem cntD_upd {B : AR} {p : Nat} : ∀ {n : Nat}, p < n → B 13 p = 0 → ∀ {B' : AR}, B' 13 = upd (B 13) p 1 → cntD B' n = cntD B n + 1 := by
  intro n
  induction n with
  | zero => intro h; omega
  | succ n ih =>
    intro h h0 B' hB
    unfold cntD
    by_cases e : p = n
    · subst e
      have : cntD B' p = cntD B p := by
        have key : ∀ k, k ≤ p → cntD B' k = cntD B k := by
          intro k
          induction k with
          | zero => intro _; rfl
          | succ k ihk =>
            intro hk
            unfold cntD
            rw [ihk (by omega), hB, pk_un (by omega)]
        exact key p (Nat.le_refl _)
      rw [this, hB, pk_us, if_neg (by decide), if_pos h0]
    · rw [ih (by omega) h0 hB, hB, pk_un (by omega)]; omega
def cDef (b : S9) (pr np : Nat) : S9 := sF (sF (sF (sA (sF b 6 0) 13 (upd (b.2.1 13) pr 1)) 5 (nI (np + 1))) 8 26) 7 0
def mDefd (c : S9) (pj pr np m j : Nat) : S9 := sF (sA (sA (mCode (mDown c 0 j) 12 0 (-1) m) 7 (upd (upd (c.2.1 7) m 0) pj (nI (m + 1)))) 15 (upd (c.2.1 15) pr 1)) 13 (nI (np + 1))
theorem w_close4 {b c : S9} {g : GH} {S m np pl pr pj p j : Nat} (h : R0 b c g S m 1 np pl pr pj p) (ho : b.2.1 14 1 = -1) :
    ∃ (g' : GH), R0 (cDef b pr np) (mDefd c pj pr np m j) g' S (m + 1) 0 (np + 1) pl pr pj (p + 1) ∧ pr < 26 ∧ b.1 8 = nI pr ∧ pj < 1200 ∧ m < 1200 := by
  obtain ⟨n1, n2, n3, n4, n5, n6, n7, n8, n9, n10, n11⟩ := h.sm.num
  have hm := RM_m h.rm n2 n9
  have hi : inD b.2.1 1 := ⟨Nat.le_refl _, ho⟩
  obtain ⟨i1, i2, i3, i4, i5, i6, i7, i8, i9, i10, i11, i12⟩ := h.df.1 hi
  have hnp := SM_np h.sm h.df hi
  have hst0 := h.sm.st
  have how : owR b.2.1 1 np = np := by unfold owR; rw [if_pos hi]
  obtain ⟨g', hg'⟩ : ∃ g', g' = gu (gu (gu g 4 pj 3) 8 pr np) 4 m 5 := ⟨_, rfl⟩
  have k0 : ∀ k i, k ≠ 4 → k ≠ 8 → g' k i = g k i := fun k i e1 e2 => by rw [hg', gu_k e1, gu_k e2, gu_k e1]
  have k8 : ∀ i, i ≠ pr → g' 8 i = g 8 i := fun i hi => by rw [hg', gu_k (by decide), gu_i hi, gu_k (by decide)]
  have k8p : g' 8 pr = np := by rw [hg', gu_k (by decide), gu_s]
  have k4 : ∀ i, i ≠ pj → i ≠ m → g' 4 i = g 4 i := fun i h1 h2 => by rw [hg', gu_i h2, gu_k (by decide), gu_i h1]
  have k4j : g' 4 pj = 3 := by rw [hg', gu_i (by omega), gu_k (by decide), gu_s]
  have k4m : g' 4 m = 5 := by rw [hg', gu_s]
  have z0 : ∀ i, g' 0 i = g 0 i := fun i => k0 0 i (by decide) (by decide)
  have z1 : ∀ i, g' 1 i = g 1 i := fun i => k0 1 i (by decide) (by decide)
  have z2 : ∀ i, g' 2 i = g 2 i := fun i => k0 2 i (by decide) (by decide)
  have z7 : ∀ i, g' 7 i = g 7 i := fun i => k0 7 i (by decide) (by decide)
  have C7 : ∀ x, x < m → ¬ x = pj → (mDefd c pj pr np m j).2.1 7 x = c.2.1 7 x := fun x hx hn => by
    show upd (upd (c.2.1 7) m _) pj _ x = _
    rw [pk_un hn, pk_un (by omega)]
  have C6m : (mDefd c pj pr np m j).2.1 6 m = 12 := pk_us
  have C6 : ∀ x, x < m → (mDefd c pj pr np m j).2.1 6 x = c.2.1 6 x := fun x hx => pk_un (by omega)
  have C7j : (mDefd c pj pr np m j).2.1 7 pj = nI (m + 1) := pk_us
  have nj : ∀ t, t < S → ¬ g 0 t = pj := fun t ht z => by
    have := (hst0.2.2.1 t ht).2
    rw [z, i7] at this; omega
  have hne : ∀ q, b.2.1 13 q = 1 → q ≠ pr := fun q h1 z => by rw [z, i3] at h1; exact absurd h1 (by decide)
  have hmv : MV b (cDef b pr np) c (mDefd c pj pr np m j) g g' S m (m + 1) 1 np S p (p + 1) (fun x => x = pj) := by
    refine ⟨by omega, by omega, rfl, rfl, rfl, rfl, rfl, rfl, rfl, rfl, C6, C7, fun x hx => ⟨pk_un (by omega), pk_un (by omega), pk_un (by omega), pk_un (by omega)⟩, fun x h1 h2 => ?_, ⟨rfl, rfl⟩, fun t ht => ⟨z0 t, z2 t, z7 t, k0 9 t (by decide) (by decide), k0 10 t (by decide) (by decide)⟩, fun q hq h1 => ⟨?_, rfl, k8 q (hne q h1), rfl, ?_⟩, fun t ht e => absurd e (nj t ht)⟩
    · have e : x = m := by omega
      subst e; exact pk_us
    · show upd (b.2.1 13) pr 1 q = 1
      rw [pk_un (hne q h1)]; exact h1
    · show upd (c.2.1 15) pr 1 q = _
      exact pk_un (hne q h1)
  have hO : ∀ s, s < S → ¬ OO b.2.1 1 (-1) s := fun s hs z => by
    rcases z with ⟨e, e1, e2, e3⟩ | z
    · have : e = 1 := by omega
      subst this
      rw [ho] at e3; exact absurd e3.symm (nIm1 (by omega))
    · exact absurd z.symm (nIm1 (by omega))
  have hag : AG b.2.1 (cDef b pr np).2.1 c.2.1 (mDefd c pj pr np m j).2.1 g g' S m (OO b.2.1 1 (-1)) (UU b.2.1 1 (-1)) := by
    refine AG_of hst0 hmv (fun t ht _ => ⟨z1 t, k0 6 t (by decide) (by decide)⟩) (fun t ht z => ⟨by rw [k0 6 t (by decide) (by decide)]; exact z, k0 3 t (by decide) (by decide)⟩) (fun x hx z => k4 x (fun y => z (by rw [y]; exact i7)) (by omega)) (fun x hx _ => k0 5 x (by decide) (by decide)) (fun x hx e => ?_) (fun t ht ho' => ⟨nj t ht, fun z e => ?_⟩)
    · rw [e, i7]; omega
    · rcases hst0.2.1 t ht with q | q
      · exact hO t ht q
      · have := (CLP_jp q z).2.2.2.2.1
        rw [e, i7] at this
        omega
  obtain ⟨pnl, pne⟩ := h.pn.2 (Nat.le_refl _)
  have hst := ST_step (O' := OO (cDef b pr np).2.1 0 (-1)) (U' := UU (cDef b pr np).2.1 0 (-1)) hst0 hag (m' := m + 1) (by omega) (fun t ht z => by
      rcases z with ⟨e, e1, e2, -⟩ | z
      · omega
      · exact absurd z.symm (nIm1 (by omega))) (fun t ht z => absurd z (hO t ht)) (fun t ht z => by
      rcases z with ⟨e, e1, e2⟩ | z
      · by_cases e0 : e = 0
        · subst e0; exact Or.inl (Or.inl ⟨0, Nat.le_refl _, e2⟩)
        · have e9 : e = 1 := by omega
          subst e9
          rcases h.sm.lv.2.2 1 (Nat.le_refl _) with q | ⟨l, l1, l2, l3, l4, l5, l6⟩
          · rw [e2] at q; exact absurd q (nIm1 (by omega))
          · have e8 := nIj (by omega) (by omega) (l1.symm.trans e2)
            subst e8
            have e7 : g' 1 l = m := by rw [z1]; exact pnl l l2 l1
            refine Or.inr (Or.inr ⟨l3, Or.inl ⟨l4.trans ho, ?_, by rw [e7]; omega, by rw [e7]; exact C6m⟩⟩)
            rw [z2, l5, if_neg (by omega), how]; exact hnp
      · exact absurd z.symm (nIm1 (by omega))) (fun t ht z => absurd z (hO t ht)) (fun t ht => by
      have := (hst0.2.2.1 t ht)
      rw [z0, k4 _ (nj t ht) (by omega)]; exact this.2)
  have hlv := LVL_move (B' := (cDef b pr np).2.1) (C' := (mDefd c pj pr np m j).2.1) (g' := g') (m' := m + 1) (D := 0) (ow' := owR (cDef b pr np).2.1 0 (np + 1)) h.sm.lv n2 (by omega) (fun z => by omega) (by omega) (fun _ _ => ⟨rfl, rfl, rfl⟩) rfl rfl rfl rfl rfl hmv.c6 (fun s hs => ⟨z0 s, z2 s, z7 s⟩) (fun e o h1 h2 => by omega)
  have hn : NUM (cDef b pr np) (mDefd c pj pr np m j) S (m + 1) 0 (np + 1) := ⟨n1, n2, n3, rfl, rfl, by omega, rfl, rfl, by omega, rfl, n11⟩
  have hpd : PD (cDef b pr np).2.1 (mDefd c pj pr np m j).2.1 g' S (m + 1) (np + 1) := by
    intro q hq
    by_cases eq : q = pr
    · subst eq
      refine Or.inr ⟨pk_us, pk_us, by rw [k8p]; omega, pj + 1, i4, by omega, ?_⟩
      rcases i10 with ⟨q1, q2⟩ | ⟨t, q1, q2, q3, q4, q5⟩
      · refine Or.inl ⟨q2, ?_⟩
        have := nIj (by omega) (by omega) (((pne q1).1 ho).symm.trans i4)
        rw [← this]; exact C6m
      · exact Or.inr ⟨t, q1, q2, by rw [z0]; exact q3, by rw [z2, k8p]; exact q4⟩
    · have b13 : (cDef b pr np).2.1 13 q = b.2.1 13 q := pk_un eq
      have c15 : (mDefd c pj pr np m j).2.1 15 q = c.2.1 15 q := pk_un eq
      rcases h.sm.pd q hq with ⟨q1, q2⟩ | ⟨q1, q2, q3, e, q4, q5, q6⟩
      · exact Or.inl ⟨by rw [b13]; exact q1, by rw [c15]; exact q2⟩
      · refine Or.inr ⟨by rw [b13]; exact q1, by rw [c15]; exact q2, by rw [k8 q eq]; omega, e, q4, by omega, ?_⟩
        rcases q6 with ⟨r1, r2⟩ | ⟨t, r1, r2, r3, r4⟩
        · exact Or.inl ⟨r1, by rw [C6 e q5]; exact r2⟩
        · exact Or.inr ⟨t, r1, r2, by rw [z0]; exact r3, by rw [z2, k8 q eq]; exact r4⟩
  have hct : np + 1 = cntD (cDef b pr np).2.1 26 := by rw [cntD_upd (B := b.2.1) i2 i3 rfl, ← h.sm.cnt]
  have hsm := SM_move h.sm hmv hn hst hlv hpd hct
  have gn : ∀ x, x < m + 1 → ¬ g' 4 x = 4 := fun x hx z4 => by
    by_cases e : x = m
    · rw [e, k4m] at z4; omega
    · by_cases e2 : x = pj
      · rw [e2, k4j] at z4; omega
      · rw [k4 x e2 e] at z4; exact e2 (i11 x (by omega) z4)
  have snoc : ∀ a, JJ c.2.1 g m a pj → JJ (mDefd c pj pr np m j).2.1 g' (m + 1) a (m + 1) := fun a q => by
    obtain ⟨-, k, hk⟩ := AG_JJ hag (show m ≤ m + 1 by omega) q
    exact ⟨Nat.le_refl _, k + 1, JC_snoc hk ((C6 pj i5).trans i6) k4j C7j (by omega)⟩
  have hMN : MN (cDef b pr np).2.1 (mDefd c pj pr np m j).2.1 g' S (m + 1) (m + 1) := by
    rcases i8 with ⟨q1, q2, q3⟩ | ⟨t, q1, q2, q3, q4, l, q5, q6⟩
    · exact Or.inl ⟨q1, q2, snoc 0 q3⟩
    · exact Or.inr ⟨t, q1, q2, by rw [z2]; exact q3, by rw [z0]; exact AG_JJ hag (by omega) q4, l, q5, q6⟩
  have hD0 : ¬ inD (cDef b pr np).2.1 0 := fun z => by have := z.1; omega
  have hdf : DF (cDef b pr np) (mDefd c pj pr np m j) g' S (m + 1) 0 (np + 1) pr pj (-1) := by
    refine ⟨fun z => absurd z hD0, fun _ => ⟨rfl, gn, ⟨m + 1, hMN⟩, fun q hq h1 => ?_⟩⟩
    by_cases eq : q = pr
    · subst eq
      rw [show (cDef b q np).2.1 13 q = 1 from pk_us] at h1
      exact absurd h1 (by decide)
    · rw [show (cDef b pr np).2.1 13 q = b.2.1 13 q from pk_un eq] at h1
      exact i12 q hq h1 eq
  refine ⟨g', ⟨hsm, MR_move h.mr hmv rfl rfl rfl, ⟨fun _ => ⟨hMN, fun l hl h0 => ?_⟩, fun z => by omega⟩, hdf, ?_, h.o7⟩, i2, i1, by omega, by omega⟩
  · rw [z1]; exact snoc _ (i9 l hl h0).1
  · have := h.rm
    unfold RM at this ⊢
    rw [if_pos hi] at this
    rw [if_neg hD0]
    show m + 1 + 0 + 0 ≤ _
    omega
/-! the class closes a block -/
theorem s_closes {b σ : S9} {w : TL} {d s : Nat} {aw : Int32} {Φ : Int32 → S9 → Prop} (h : Cs b w σ) (h6 : b.1 6 = nI (d + 1)) (hd : d < 20) (ho : b.2.1 14 (d + 1) = nI s) (hs : s < 300) (haw : (b.2.1 2 s = 63 ∧ b.2.1 15 (d + 1) = 0 ∧ aw = 1) ∨ ((¬ b.2.1 2 s = 63 ∨ ¬ b.2.1 15 (d + 1) = 0) ∧ aw = 0)) (k : ∀ σ', Cs (cDown b d aw) w σ' → Φ 1 σ') : wp_X0_closesBlock σ Φ := by
  unfold wp_X0_closesBlock
  have e6 : σ.1 6 = nI (d + 1) := by rw [Cs_1 h (show (6 : Nat) ≠ 13 by decide), h6]
  have r14 : σ.2.1 14 = b.2.1 14 := Cs_2 h (by decide) (by decide)
  have r15 : σ.2.1 15 = b.2.1 15 := Cs_2 h (by decide) (by decide)
  have r2 : σ.2.1 2 = b.2.1 2 := Cs_2 h (by decide) (by decide)
  have hns : ¬ nI s = -1 := nIm1 (by omega)
  rw [e6, nI_clamp (by omega), r14, ho, r2, r15]
  have hin : vp_in (nI (d + 1)) 21 := pk_in (d + 1) 21 (by omega)
  have fin : ∀ t : Int32, (t = 0 ∧ aw = 0) ∨ (t = 1 ∧ aw = 1) → wp_X0_closesBlock_b55 Φ (nI s) t σ := by
    intro t ht
    unfold wp_X0_closesBlock_b55
    rw [e6, nI_pred]
    refine nm_e (br_f hns ?_)
    unfold wp_X0_closesBlock_b75
    rcases ht with ⟨e1, e2⟩ | ⟨e1, e2⟩
    · rw [e1]; refine br_t rfl (c_aw2 (k _ ?_))
      rw [e2]; exact Cs_sF (Cs_sF h (by decide) _) (by decide) _
    · rw [e1]; refine br_f (by decide) (c_aw2 (k _ ?_))
      rw [e2]; exact Cs_sF (Cs_sF h (by decide) _) (by decide) _
  refine pk_eq (d + 1) 0 (fun e => by omega) (fun _ => ⟨hin, nm_e (br_f hns ⟨pk_in s 300 hs, ?_⟩)⟩)
  rw [nI_clamp (by omega)]
  rcases haw with ⟨q1, q2, q3⟩ | ⟨q1, q2⟩
  · exact br_t q1 ⟨hin, br_t q2 (fin 1 (Or.inr ⟨rfl, q3⟩))⟩
  · refine br_c (fun z => ⟨hin, br_f ?_ (fin 0 (Or.inl ⟨rfl, q2⟩))⟩) (fun _ => fin 0 (Or.inl ⟨rfl, q2⟩))
    rcases q1 with q1 | q1
    · exact absurd z q1
    · exact q1
theorem s_closesP {b σ : S9} {w : TL} {pr np : Nat} {Φ : Int32 → S9 → Prop} (h : Cs b w σ) (h6 : b.1 6 = nI 1) (ho : b.2.1 14 1 = -1) (h8 : b.1 8 = nI pr) (hp : pr < 26) (h5 : b.1 5 = nI np) (k : ∀ σ', Cs (cDef b pr np) w σ' → Φ 1 σ') : wp_X0_closesBlock σ Φ := by
  unfold wp_X0_closesBlock
  have e6 : σ.1 6 = nI 1 := by rw [Cs_1 h (show (6 : Nat) ≠ 13 by decide), h6]
  have e8 : σ.1 8 = nI pr := by rw [Cs_1 h (show (8 : Nat) ≠ 13 by decide), h8]
  have e5 : σ.1 5 = nI np := by rw [Cs_1 h (show (5 : Nat) ≠ 13 by decide), h5]
  have r14 : σ.2.1 14 = b.2.1 14 := Cs_2 h (by decide) (by decide)
  have r13 : σ.2.1 13 = b.2.1 13 := Cs_2 h (by decide) (by decide)
  rw [e6, nI_clamp (by omega), r14, ho]
  refine br_f (by decide) ⟨pk_in 1 21 (by omega), nm_e (br_t rfl ?_)⟩
  unfold wp_X0_closesBlock_b54 wp_X0_closesBlock_b55
  rw [e6, show nI 1 - 1 = (0 : Int32) from rfl]
  refine nm_e (br_t rfl ?_)
  unfold wp_X0_closeDefinition
  have f8 : (sF σ 6 0).1 8 = nI pr := e8
  rw [f8, nI_clamp (by omega), bool_nar1]
  refine ⟨pk_in pr 26 hp, nm_e (nm_e (nm_e ?_))⟩
  unfold wp_X0_closesBlock_b75
  refine br_t rfl (c_aw2 (k _ ?_))
  have f5 : (sA (sF σ 6 0) 13 (upd ((sF σ 6 0).2.1 13) pr 1)).1 5 + 1 = nI (np + 1) := by
    show σ.1 5 + 1 = _
    rw [e5, nI_1]
  rw [f5, show (sF σ 6 0).2.1 13 = b.2.1 13 from r13]
  exact Cs_sF (Cs_sF (Cs_sF (Cs_sA (Cs_sF h (by decide) _) (by decide) (by decide) _) (by decide) _) (by decide) _) (by decide) _
/-! the reference closes a block -/
theorem m_rest {c : S9} {l : TL} {d j : Nat} {Ψ : Int32 → S9 → Prop} (hw : wd c j 225) (h6 : c.1 6 = nI (d + 1)) (hl : l.length < 3900) (k : MG (mDown c d j) l Ψ) : MG c ((2, 0) :: l) Ψ := by
  obtain ⟨w1, w2, w3, w4⟩ := hw
  refine mg_out w4 (by omega) ⟨by decide, Or.inl (by decide)⟩ (fun τ K hτ kk => ?_) k
  unfold wp_X11_doOuter
  refine br_f (by decide) (br_t rfl (s_sees hτ w1 (by omega) (fun _ => br_f (by decide) (nm_e (nm_e ?_))) (fun e => absurd w3 e)))
  rw [St_1 hτ (show (3 : Nat) ≠ 5 by decide), w1, nI_1]
  have f6 : (sF τ 3 (nI (j + 1))).1 6 - 1 = nI d := by
    show τ.1 6 - 1 = _
    rw [St_1 hτ (show (6 : Nat) ≠ 5 by decide), h6, nI_pred]
  rw [f6]
  exact kk _ (St_sF (St_sF hτ (by decide) _) (by decide) _)
theorem m_elseEnd {c : S9} {l : TL} {h m : Nat} {Ψ : Int32 → S9 → Prop} (h4 : c.1 4 = -1) (hl : l.length < 3900) (h11 : c.1 11 = nI m) (hh : h < 1200) (k : MG (mTgt c h m) l Ψ) : MG c ((16, nI h) :: l) Ψ := by
  refine mg_out h4 (by omega) ⟨by decide, Or.inr (by decide)⟩ (fun τ K hτ kk => ?_) k
  unfold wp_X11_doOuter
  refine br_f (by decide) (br_f (by decide) (br_f (by decide) (br_f (by decide) (br_f (by decide) (br_t rfl ⟨pk_in h 1200 hh, nm_e ?_⟩)))))
  rw [nI_clamp (by omega), St_1 hτ (show (11 : Nat) ≠ 5 by decide), St_2 hτ (show (7 : Nat) ≠ 4 by decide) (by decide), h11]
  exact kk _ (St_sA hτ (by decide) (by decide) _)
theorem m_round {c : S9} {l : TL} {h m : Nat} {Ψ : Int32 → S9 → Prop} (h4 : c.1 4 = -1) (hl : l.length < 3900) (h11 : c.1 11 = nI m) (hm : m < 1200) (hh : h < 1200) (k : MG (mRound c h m) l Ψ) : MG c ((17, nI h) :: l) Ψ := by
  refine mg_out h4 (by omega) ⟨by decide, Or.inr (by decide)⟩ (fun τ K hτ kk => ?_) k
  unfold wp_X11_doOuter
  refine br_f (by decide) (br_f (by decide) (br_f (by decide) (br_f (by decide) (br_f (by decide) (br_f (by decide) (br_t rfl (s_code (m := m) hτ h11 hm (fun τ1 h1 => ⟨pk_in h 1200 hh, nm_e ?_⟩))))))))
  rw [nI_clamp (by omega), St_1 h1 (show (11 : Nat) ≠ 5 by decide), St_2 h1 (show (7 : Nat) ≠ 4 by decide) (by decide)]
  exact kk _ (St_sA h1 (by decide) (by decide) _)
theorem m_defd {c : S9} {l : TL} {pj pr np m j : Nat} {Ψ : Int32 → S9 → Prop} (h4 : c.1 4 = -1) (hl : l.length < 3900) (h11 : c.1 11 = nI m) (hm : m < 1200) (h13 : c.1 13 = nI np) (hpj : pj < 1200) (hpr : pr < 26) (k : MG (mDefd c pj pr np m j) l Ψ) : MG (mDown c 0 j) ((18, nI (32 * pj + pr)) :: l) Ψ := by
  refine mg_out h4 (by omega) ⟨by decide, Or.inr (by decide)⟩ (fun τ K hτ kk => ?_) k
  unfold wp_X11_doOuter
  refine br_f (by decide) (br_f (by decide) (br_f (by decide) (br_f (by decide) (br_f (by decide) (br_f (by decide) (br_f (by decide) (s_code (m := m) hτ h11 hm (fun τ1 h1 => ?_))))))))
  have ed : nI (32 * pj + pr) / 32 = nI pj := by rw [show (32 : Int32) = nI 32 from rfl, pk_div (by omega) (by omega) (by omega), show (32 * pj + pr) / 32 = pj by omega]
  have er : nI (32 * pj + pr) - nI pj * 32 = nI pr := by rw [← ed, show (32 : Int32) = nI 32 from rfl, pk_rem (by omega) (by omega) (by omega), show (32 * pj + pr) % 32 = pr by omega]
  rw [ed, er]
  refine ⟨pk_in pj 1200 hpj, nm_e ⟨pk_in pr 26 hpr, nm_e (nm_e ?_)⟩⟩
  rw [nI_clamp (by omega), nI_clamp (by omega), bool_nar1, St_1 h1 (show (11 : Nat) ≠ 5 by decide), St_2 h1 (show (7 : Nat) ≠ 4 by decide) (by decide)]
  have r15 : (sA τ1 7 (upd ((mCode (mDown c 0 j) 12 0 (-1) m).2.1 7) pj ((mCode (mDown c 0 j) 12 0 (-1) m).1 11))).2.1 15 = c.2.1 15 := by
    show τ1.2.1 15 = _
    exact St_2 h1 (by decide) (by decide)
  have f13 : (sA (sA τ1 7 (upd ((mCode (mDown c 0 j) 12 0 (-1) m).2.1 7) pj ((mCode (mDown c 0 j) 12 0 (-1) m).1 11))) 15 (upd (c.2.1 15) pr 1)).1 13 + 1 = nI (np + 1) := by
    show τ1.1 13 + 1 = _
    rw [St_1 h1 (show (13 : Nat) ≠ 5 by decide), show (mCode (mDown c 0 j) 12 0 (-1) m).1 13 = nI np from h13, nI_1]
  rw [r15, f13]
  exact kk _ (St_sF (St_sA (St_sA h1 (by decide) (by decide) _) (by decide) (by decide) _) (by decide) _)
