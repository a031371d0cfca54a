/-! ===== moves: a definition begins; behind a first block ===== -/
theorem AG_of {b b' c c' : S9} {g g' : GH} {S m m' d np T wp wp' : Nat} {O U P : Nat → Prop} (h : ST b.2.1 c.2.1 g S m O U) (hm : MV b b' c c' g g' S m m' d np T wp wp' P)
    (g1 : ∀ s, s < S → ¬ O s → g' 1 s = g 1 s ∧ g' 6 s = g 6 s) (g3 : ∀ s, s < S → g 6 s = 1 → g' 6 s = 1 ∧ g' 3 s = g 3 s) (g4 : ∀ h, h < m → ¬ g 4 h = 4 → g' 4 h = g 4 h) (g5 : ∀ h, h < m → g 4 h = 2 → g' 5 h = g 5 h)
    (hP : ∀ h, h < m → P h → ¬ (g 4 h = 1 ∨ g 4 h = 3)) (hP0 : ∀ s, s < S → ¬ O s → ¬ P (g 0 s) ∧ (g 6 s = 1 → ¬ P (g 3 s))) : AG b.2.1 b'.2.1 c.2.1 c'.2.1 g g' S m O U := by
  refine ⟨fun s hs => ⟨fun _ => by rw [hm.k8], by rw [hm.k5], by rw [hm.k2], fun _ => ⟨by rw [hm.k6], by rw [hm.k7]⟩⟩, fun s hs => ?_, fun x hx => ⟨hm.c6 x hx, fun z => hm.c7 x hx (fun y => hP x hx y z), g4 x hx, g5 x hx⟩, fun s hs ho => ?_⟩
  · obtain ⟨q0, q2, q7, -⟩ := hm.g0 s hs
    exact ⟨q0, q2, q7, g1 s hs, g3 s hs⟩
  · obtain ⟨p1, p2⟩ := hP0 s hs ho
    refine ⟨hm.c7 _ (h.2.2.1 s hs).1 p1, fun z => hm.c7 _ ?_ (p2 z)⟩
    rcases h.2.1 s hs with q | q
    · exact absurd q ho
    · exact (CLP_jp q z).2.2.1
theorem g0_inj {b c : S9} {g : GH} {S m : Nat} {O U : Nat → Prop} (h : ST b.2.1 c.2.1 g S m O U) {s t : Nat} (hs : s < S) (ht : t < S) (e : g 0 s = g 0 t) : s = t := by
  rcases Nat.lt_trichotomy s t with q | q | q
  · have := h.2.2.2 s t q ht; omega
  · exact q
  · have := h.2.2.2 t s q hs; omega
theorem DI_move {b b' c c' : S9} {g g' : GH} {S m m' d d' np T wp wp' pr pj : Nat} {xo xo' : Int32} {O U P : Nat → Prop} (h : DI b c g S m d np pr pj xo) (hm : MV b b' c c' g g' S m m' d np T wp wp' P) (hag : AG b.2.1 b'.2.1 c.2.1 c'.2.1 g g' S m O U) (h8 : b'.1 8 = b.1 8) (h13 : b'.2.1 13 = b.2.1 13) (h14 : c'.2.1 14 = c.2.1 14) (h12 : b'.2.1 12 = b.2.1 12) (h16 : ∀ e, e ≤ 1 → b'.2.1 16 e = b.2.1 16 e)
    (g1 : ∀ l, l < S → b.2.1 16 0 = nI l → g' 1 l = g 1 l ∧ ¬ OO b'.2.1 d' xo' l) (gn : ∀ x, x < m' → g' 4 x = 4 → x < m ∧ g 4 x = 4) (gj : g' 4 pj = 4) : DI b' c' g' S m' d' np pr pj xo' := by
  obtain ⟨i1, i2, i3, i4, i5, i6, i7, i8, i9, i10, i11, i12⟩ := h
  refine ⟨by rw [h8]; exact i1, i2, by rw [h13]; exact i3, by rw [h14]; exact i4, Nat.lt_of_lt_of_le i5 hm.mm, by rw [hm.c6 pj i5]; exact i6, gj, ?_, fun l hl h0 => ?_, ?_, fun x hx h4 => ?_, ?_⟩
  · exact MN_move i8 (by rw [h12]) (h16 0 (by omega)) (fun s hs => ⟨(hm.g0 s hs).1, (hm.g0 s hs).2.1⟩) (fun a q => AG_JJ hag hm.mm q) (fun q => q)
  · rw [h16 0 (by omega)] at h0
    obtain ⟨q1, q2⟩ := g1 l hl h0
    rw [q1]; exact ⟨AG_JJ hag hm.mm (i9 l hl h0).1, q2⟩
  · rw [h12, h16 1 (by omega)]
    rcases i10 with q | ⟨t, q1, q2, q3, q4, q5⟩
    · exact Or.inl q
    · exact Or.inr ⟨t, q1, q2, by rw [(hm.g0 t q2).1]; exact q3, by rw [(hm.g0 t q2).2.1]; exact q4, q5⟩
  · obtain ⟨q1, q2⟩ := gn x hx h4
    exact i11 x q1 q2
  · rw [h12, h13]; exact i12
theorem DN_move {b b' c c' : S9} {g g' : GH} {S m m' d np T wp wp' : Nat} {O U P : Nat → Prop} (h : DN b c g S m) (hm : MV b b' c c' g g' S m m' d np T wp wp' P) (hag : AG b.2.1 b'.2.1 c.2.1 c'.2.1 g g' S m O U) (h8 : b'.1 8 = b.1 8) (h13 : b'.2.1 13 = b.2.1 13) (h12 : b'.2.1 12 = b.2.1 12) (h16 : b'.2.1 16 0 = b.2.1 16 0) (gn : ∀ x, x < m' → g' 4 x = 4 → x < m ∧ g 4 x = 4) : DN b' c' g' S m' := by
  obtain ⟨n1, n2, ⟨y, n3⟩, n4⟩ := h
  refine ⟨by rw [h8]; exact n1, fun x hx z => ?_, ⟨y, MN_move n3 (by rw [h12]) h16 (fun s hs => ⟨(hm.g0 s hs).1, (hm.g0 s hs).2.1⟩) (fun a q => AG_JJ hag hm.mm q) (fun q => q)⟩, by rw [h12, h13]; exact n4⟩
  obtain ⟨q1, q2⟩ := gn x hx z
  exact n2 x q1 q2
/-! a definition begins -/
def mDef (c : S9) (m q j : Nat) : S9 := sF (sA (mCode c 11 0 (-1) m) 14 (upd (c.2.1 14) q (nI (m + 1)))) 3 (nI (j + 1))
theorem m_def {c : S9} {B : AR} {g : GH} {pn m q j : Nat} {Ψ : Int32 → S9 → Prop} (hw : wd c j 4) (hn : c.2.1 1 (j + 1) = 223) (hv : c.2.1 2 j = nI q) (hq : q < 26) (h15 : c.2.1 15 q = 0) (h11 : c.1 11 = nI m) (hm : m < 1200) (k : MG (mDef c m q j) ((3, 0) :: (18, nI (32 * m + q)) :: bsT B g pn 0) Ψ) : MG c (bsT B g pn 0) Ψ := by
  obtain ⟨w1, w2, w3, w4⟩ := hw
  have hin : vp_in (nI j) 3002 := pk_in j 3002 (by omega)
  have hiq : vp_in (nI q) 26 := pk_in q 26 hq
  have e3 : ∀ (l : List (Int32 × Int32)) (τ : S9), St c l τ → τ.1 3 = nI j ∧ τ.2.1 1 = c.2.1 1 ∧ τ.2.1 2 = c.2.1 2 ∧ τ.2.1 15 = c.2.1 15 := fun l τ hh => ⟨by rw [St_1 hh (show (3 : Nat) ≠ 5 by decide), w1], St_2 hh (by decide) (by decide), St_2 hh (by decide) (by decide), St_2 hh (by decide) (by decide)⟩
  refine mg_out w4 (by decide) ⟨by decide, Or.inl (by decide)⟩ (fun τ K h kk => ?_) k
  unfold wp_X11_doOuter
  refine br_t rfl ?_
  rw [(e3 _ _ h).1, (e3 _ _ h).2.1, nI_clamp (by omega), w3]
  refine ⟨hin, br_f (by decide) (s_come h (by decide) (fun τ1 h1 => ?_))⟩
  unfold wp_X11_outer
  rw [(e3 _ _ h1).1, (e3 _ _ h1).2.1, nI_1, nI_clamp (by omega), nI_clamp (by omega), w3, hn]
  refine ⟨hin, br_t rfl ⟨pk_in (j + 1) 3002 (by omega), br_t rfl ?_⟩⟩
  unfold wp_X11_outer_b35
  rw [(e3 _ _ h1).1, (e3 _ _ h1).2.2.1, (e3 _ _ h1).2.2.2, nI_clamp (by omega), hv]
  refine br_f (by decide) ⟨hin, nm_e ⟨hiq, ?_⟩⟩
  rw [nI_clamp (by omega), h15]
  refine br_t rfl (s_code (m := m) h1 h11 hm (fun τ2 h2 => ⟨hiq, nm_e (nm_e ?_)⟩))
  have f11 : τ2.1 11 = nI (m + 1) := by rw [St_1 h2 (show (11 : Nat) ≠ 5 by decide)]; rfl
  have f14 : τ2.2.1 14 = c.2.1 14 := St_2 h2 (by decide) (by decide)
  have f3 : (sA τ2 14 (upd (τ2.2.1 14) q (τ2.1 11))).1 3 = nI j := by
    show τ2.1 3 = _
    rw [St_1 h2 (show (3 : Nat) ≠ 5 by decide)]; exact w1
  rw [f3, f11, f14, nI_1]
  have h3 : St (mDef c m q j) (bsT B g pn 0) (sF (sA τ2 14 (upd (c.2.1 14) q (nI (m + 1)))) 3 (nI (j + 1))) := St_sF (St_sA h2 (by decide) (by decide) _) (by decide) _
  rw [show (32 : Int32) * nI m + nI q = nI (32 * m + q) from by rw [show (32 : Int32) = nI 32 from rfl, pk_mul, nI_add]]
  exact s_come h3 (by rw [bsT_len]; omega) (fun τ4 h4 => s_come h4 (by simp only [List.length_cons, bsT_len]; omega) kk)
theorem w_def {b c : S9} {g : GH} {S m np pl pr pj p j : Nat} {x v : Int32} {w : TL} (h : R0 b c g S m 0 np pl pr pj p) (hpl : pl ≤ j) (hw : WH b c j p x 4 v) {q : Nat} (hq : q < 26) (hv : v = nI q) (hxq : x = nI (65 + q)) (hnx : c.2.1 1 (j + 1) = 223) (hdq : b.2.1 13 q = 0) :
    wAcc (wp_X0_beginsStatement x) b c w (BS b.2.1 g pj pr 0) j p := by
  obtain ⟨n1, n2, n3, n4, n5, n6, n7, n8, n9, n10, n11⟩ := h.sm.num
  have hm := RM_m h.rm n2 n9
  have hnD : ¬ inD b.2.1 0 := fun z => by have := z.1; omega
  obtain ⟨dn1, dn2, dn3, dn4⟩ := h.df.2 hnD
  have h15 : c.2.1 15 q = 0 := by
    rcases h.sm.pd q hq with ⟨-, z⟩ | ⟨z, -⟩
    · exact z
    · rw [hdq] at z; exact absurd z (by decide)
  have hmv : MV b (sF (sF b 8 (nI q)) 7 6) c (mDef c m q j) g (gu g 4 m 4) S m (m + 1) 0 np S p (p + 1) (fun _ => False) := by
    refine ⟨by omega, by omega, rfl, rfl, rfl, rfl, rfl, rfl, rfl, rfl, fun x hx => pk_un (by omega), fun x hx _ => pk_un (by omega), fun x hx => ⟨pk_un (by omega), pk_un (by omega), pk_un (by omega), pk_un (by omega)⟩, fun x h1 h2 => ?_, ⟨rfl, rfl⟩, fun s hs => ⟨gu_k (by decide), gu_k (by decide), gu_k (by decide), gu_k (by decide), gu_k (by decide)⟩, fun q' hq' h1 => ⟨h1, ?_, gu_k (by decide), rfl, rfl⟩, fun _ _ z => z.elim⟩
    · have e : x = m := by omega
      subst e; exact pk_us
    · exact pk_un (fun z => by rw [z, hdq] at h1; exact absurd h1 (by decide))
  have hag : AG b.2.1 (sF (sF b 8 (nI q)) 7 6).2.1 c.2.1 (mDef c m q j).2.1 g (gu g 4 m 4) S m (OO b.2.1 0 (-1)) (UU b.2.1 0 (-1)) :=
    AG_of h.sm.st hmv (fun s hs _ => ⟨gu_k (by decide), gu_k (by decide)⟩) (fun s hs z => ⟨by rw [gu_k (by decide)]; exact z, gu_k (by decide)⟩) (fun x hx _ => gu_i (by omega)) (fun x hx _ => gu_k (by decide)) (fun _ _ z => z.elim) (fun _ _ _ => ⟨fun z => z, fun _ z => z⟩)
  have hn : NUM (sF (sF b 8 (nI q)) 7 6) (mDef c m q j) S (m + 1) 0 np := ⟨n1, n2, n3, n4, n5, n6, n7, n8, n9, rfl, n11⟩
  have hst := ST_step (O' := OO b.2.1 0 (-1)) (U' := UU b.2.1 0 (-1)) h.sm.st hag (m' := m + 1) (by omega) (fun _ _ z => z) (fun s hs ho => by
    rcases ho with ⟨e, e1, e2, -⟩ | z
    · omega
    · exact absurd z.symm (nIm1 (by omega))) (fun _ _ z => Or.inl z) (fun _ _ z => Or.inl z) (fun s hs => by
    rw [gu_k (show (0 : Nat) ≠ 4 by decide), gu_i (by have := (h.sm.st.2.2.1 s hs).1; omega)]; exact (h.sm.st.2.2.1 s hs).2)
  have hlv := LVL_move (B' := (sF (sF b 8 (nI q)) 7 6).2.1) (C' := (mDef c m q j).2.1) (g' := gu g 4 m 4) (m' := m + 1) h.sm.lv n2 (Nat.le_refl _) (fun _ => rfl) (by omega) (fun _ _ => ⟨rfl, rfl, rfl⟩) rfl rfl rfl rfl rfl hmv.c6 (fun s hs => ⟨gu_k (by decide), gu_k (by decide), gu_k (by decide)⟩) (fun e o h1 h2 => by omega)
  have hsm := SM_move h.sm hmv hn hst hlv (PD_move h.sm.pd hmv rfl rfl) h.sm.cnt
  obtain ⟨pn1, pn2⟩ := h.pn.1 rfl
  have hR : R6 (sF (sF b 8 (nI q)) 7 6) (mDef c m q j) (gu g 4 m 4) S (m + 1) np pl q m (p + 1) := by
    refine ⟨hsm, MR_move h.mr hmv rfl rfl rfl, ?_, h.o7, rfl, hq, hdq, pk_us, rfl, pk_us, gu_s, ?_, fun l hl h0 => ?_, dn4 q hq hdq, fun x hx h4 => ?_, fun q' hq' h1 _ => dn4 q' hq' h1⟩
    · have := h.rm
      unfold RM at this
      rw [if_neg hnD] at this
      omega
    · exact MN_move pn1 rfl rfl (fun s hs => ⟨gu_k (by decide), gu_k (by decide)⟩) (fun a q => AG_JJ hag (by omega) q) (fun q => q)
    · rw [gu_k (show (1 : Nat) ≠ 4 by decide)]; exact AG_JJ hag (by omega) (pn2 l hl h0)
    · by_cases e : x = m
      · exact e
      · rw [gu_i e] at h4
        exact absurd h4 (dn2 x (by omega))
  have hpr : ¬ x < 65 ∧ ¬ 90 < x := by
    rw [hxq, show (65 : Int32) = nI 65 from rfl, show (90 : Int32) = nI 90 from rfl, nI_ltI (by omega) (by omega), nI_ltI (by omega) (by omega)]; omega
  refine ⟨sF (sF b 8 (nI q)) 7 6, mDef c m q j, w, (3, 0) :: (18, nI (32 * m + q)) :: BS b.2.1 g pj pr 0, Or.inr (Or.inr (Or.inr (Or.inr (Or.inr (Or.inr (Or.inl ⟨rfl, gu g 4 m 4, S, m + 1, np, pl, q, m, hR, by omega, rfl⟩)))))), ?_, ?_, rfl, n11, fun σ Φ hσ k => ?_, fun Ψ k => m_def hw.wd hnx (hw.v.trans hv) hq h15 n10 (by omega) k⟩
  · exact ⟨fun k hk => by show upd (upd b.1 8 _) 7 _ k = _; rw [pk_un (by omega), pk_un (by omega)], rfl, rfl, rfl⟩
  · refine ⟨fun k hk => ?_, rfl, rfl, rfl, rfl, rfl⟩
    show upd (upd c.1 11 _) 3 _ k = _
    rw [pk_un (by omega), pk_un (by omega)]
  · unfold wp_X0_beginsStatement
    refine s_isProc (fun _ => br_f (by decide) ?_) (fun z => absurd hpr z)
    rw [hxq, show (65 : Int32) = nI 65 from rfl, pk_sub (by omega), show 65 + q - 65 = q by omega]
    unfold wp_X0_takesProcedure
    rw [Cs_1 hσ (show (6 : Nat) ≠ 13 by decide), n4]
    refine br_t rfl (hw.bf w σ _ rfl hσ (fun _ => br_f (by decide) (nm_e ⟨pk_in q 26 hq, ?_⟩)) (fun z => absurd hnx z))
    rw [nI_clamp (by omega)]
    have e13 : (sF σ 8 (nI q)).2.1 13 q = 0 := by
      show σ.2.1 13 q = 0
      rw [Cs_2 hσ (show (13 : Nat) ≠ 17 by decide) (by decide)]; exact hdq
    rw [e13]
    refine br_t rfl ?_
    unfold wp_X0_awaits
    exact nm_e (br_f (by decide) ⟨rfl, k _ (Cs_sF (Cs_sF hσ (by decide) _) (by decide) _)⟩)
