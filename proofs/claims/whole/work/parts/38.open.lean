/-! ===== blocks are opened ===== -/
theorem ST_sets {B C : AR} {g : GH} {S m : Nat} {O U O' U' : Nat → Prop} (h : ST B C g S m O U) (hO : ∀ s, s < S → (O' s ↔ O s)) (hU : ∀ s, s < S → (U' s ↔ U s)) : ST B C g S m O' U' := by
  obtain ⟨s1, s2, s3, s4⟩ := h
  refine ⟨fun s hs => ?_, fun s hs => ?_, s3, s4⟩
  · rcases s1 s hs with q | q
    · exact Or.inl ((hU s hs).mpr q)
    · refine Or.inr ?_
      rcases q with q | ⟨q1, q | ⟨p, q2, q3, q4, q5 | ⟨q5, q6 | ⟨q6, q7⟩⟩⟩⟩
      · exact Or.inl q
      · exact Or.inr ⟨q1, Or.inl q⟩
      · exact Or.inr ⟨q1, Or.inr ⟨p, q2, q3, q4, Or.inl q5⟩⟩
      · exact Or.inr ⟨q1, Or.inr ⟨p, q2, q3, q4, Or.inr ⟨q5, Or.inl q6⟩⟩⟩
      · exact Or.inr ⟨q1, Or.inr ⟨p, q2, q3, q4, Or.inr ⟨q5, Or.inr ⟨fun z => q6 ((hO p (by omega)).mp z), q7⟩⟩⟩⟩
  · rcases s2 s hs with q | q
    · exact Or.inl ((hO s hs).mpr q)
    · exact Or.inr q
/-- the class opens a block -/
def cOpen (b : S9) (d : Nat) (o : Int32) (el : Int32) : S9 := sF (sA (sA (sA (sF b 6 (nI (d + 1))) 14 (upd (b.2.1 14) (d + 1) o)) 15 (upd (b.2.1 15) (d + 1) el)) 16 (upd (b.2.1 16) (d + 1) (-1))) 7 0
theorem s_opens {b σ : S9} {w : TL} {d : Nat} {o el : Int32} {Φ : Int32 → S9 → Prop} (h : Cs b w σ) (h6 : b.1 6 = nI d) (hd : d < 20) (hel : vp_nar .boolean el = el) (k : ∀ σ', Cs (cOpen b d o el) w σ' → Φ 1 σ') : wp_X0_opensBlock o el σ Φ := by
  unfold wp_X0_opensBlock
  have e6 : σ.1 6 = nI d := by rw [Cs_1 h (show (6 : Nat) ≠ 13 by decide), h6]
  have r14 : σ.2.1 14 = b.2.1 14 := Cs_2 h (by decide) (by decide)
  have r15 : σ.2.1 15 = b.2.1 15 := Cs_2 h (by decide) (by decide)
  have r16 : σ.2.1 16 = b.2.1 16 := Cs_2 h (by decide) (by decide)
  have hin : vp_in (nI (d + 1)) 21 := pk_in (d + 1) 21 (by omega)
  rw [e6]
  refine pk_eq d 20 (fun e => absurd e (by omega)) (fun _ => ?_)
  unfold wp_X0_awaits
  simp only [forall_eq, sF_1, sA_1, pk_us, nI_1, nI_clamp (show d + 1 < 2 ^ 31 by omega), hel]
  refine ⟨hin, hin, hin, rfl, k _ ?_⟩
  simp only [sF_21, sA_21, vup_at, Nat.reduceEqDiff, if_false, ↓reduceIte, r14, r15, r16]
  unfold cOpen
  exact Cs_sF (Cs_sA (Cs_sA (Cs_sA (Cs_sF h (by decide) _) (by decide) (by decide) _) (by decide) (by decide) _) (by decide) (by decide) _) (by decide) _
theorem s_opens20 {b σ : S9} {w : TL} {o el : Int32} {Φ : Int32 → S9 → Prop} (h : Cs b w σ) (h6 : b.1 6 = nI 20) (k : Φ 0 σ) : wp_X0_opensBlock o el σ Φ := by
  unfold wp_X0_opensBlock
  rw [Cs_1 h (show (6 : Nat) ≠ 13 by decide), h6]
  exact br_t rfl k
/-- the reference opens a block -/
def mOpen (c : S9) (d j : Nat) : S9 := sF (sF c 3 (nI (j + 1))) 6 (nI (d + 1))
theorem m_open {c : S9} {l : TL} {d j : Nat} {Ψ : Int32 → S9 → Prop} (hw : wd c j 223) (h6 : c.1 6 = nI d) (hd : d < 20) (hl : l.length < 3900) (k : MG (mOpen c d j) ((2, 0) :: l) Ψ) : MG c ((3, 0) :: l) Ψ := by
  obtain ⟨w1, w2, w3, w4⟩ := hw
  refine mg_out w4 (by omega) ⟨by decide, Or.inl (by decide)⟩ (fun τ K hτ kk => ?_) k
  unfold wp_X11_doOuter
  refine br_f (by decide) (br_f (by decide) (br_t rfl ?_))
  rw [St_1 hτ (show (6 : Nat) ≠ 5 by decide), h6]
  refine pk_eq d 20 (fun e => absurd e (by omega)) (fun _ => ?_)
  unfold wp_X11_doOuter_b171
  refine s_expect hτ w1 w4 (by omega) (fun _ τ1 h1 => nm_e ?_) (fun e => absurd w3 e)
  rw [St_1 h1 (show (6 : Nat) ≠ 5 by decide), show (sF c 3 (nI (j + 1))).1 6 = nI d from h6, nI_1]
  exact s_come (St_sF h1 (by decide) _) (by omega) kk
theorem m_openBad {c : S9} {l : TL} {d j : Nat} {kd : Int32} (hw : wd c j kd) (h6 : c.1 6 = nI d) (hd : d ≤ 20) (hl : l.length < 3900) (hb : ¬ kd = 223 ∨ d = 20) (hp : ∃ p : Nat, p < 3001 ∧ c.2.1 3 j = nI p) : MFail c ((3, 0) :: l) j := by
  obtain ⟨w1, w2, w3, w4⟩ := hw
  obtain ⟨p, hp1, hp2⟩ := hp
  have hne : ¬ nI p = -1 := nIm1 (by omega)
  by_cases e : d = 20
  · by_cases e2 : kd = 223
    · refine ⟨sF (sF c 3 (nI (j + 1))) 6 (nI 21), (2, 0) :: l, ⟨⟨rfl, rfl, rfl, rfl, rfl⟩, rfl, rfl⟩, by simp only [List.length_cons]; omega, fun Ψ k => ?_⟩
      refine mg_out w4 (by omega) ⟨by decide, Or.inl (by decide)⟩ (fun τ K hτ kk => ?_) k
      unfold wp_X11_doOuter
      refine br_f (by decide) (br_f (by decide) (br_t rfl ?_))
      rw [St_1 hτ (show (6 : Nat) ≠ 5 by decide), h6, e, St_1 hτ (show (3 : Nat) ≠ 5 by decide), w1]
      refine br_t rfl (s_fail hτ w4 (by omega) (fun τ1 h1 => ?_))
      unfold wp_X11_doOuter_b171 wp_X11_expect
      refine s_sees h1 w1 (by omega) (fun _ => br_f (by decide) (nm_e (nm_e ?_))) (fun y => absurd (w3.trans e2) y)
      have f3 : τ1.1 3 = nI j := by rw [St_1 h1 (show (3 : Nat) ≠ 5 by decide)]; exact w1
      have f6 : (sF τ1 3 (nI (j + 1))).1 6 = nI 20 := by
        show τ1.1 6 = _
        rw [St_1 h1 (show (6 : Nat) ≠ 5 by decide), ← e]; exact h6
      rw [f3, nI_1, f6, nI_1]
      refine s_come (c := sF (sF (sF c 3 (nI (j + 1))) 6 (nI 21)) 4 (c.2.1 3 j)) ?_ (by omega) kk
      have q := St_sF (St_sF h1 (show (3 : Nat) ≠ 5 by decide) (nI (j + 1))) (show (6 : Nat) ≠ 5 by decide) (nI (20 + 1))
      have e9 : sF (sF (sF c 4 (c.2.1 3 j)) 3 (nI (j + 1))) 6 (nI (20 + 1)) = sF (sF (sF c 3 (nI (j + 1))) 6 (nI 21)) 4 (c.2.1 3 j) := by
        unfold sF
        refine Prod.ext ?_ rfl
        show upd (upd (upd c.1 4 _) 3 _) 6 _ = upd (upd (upd c.1 3 _) 6 _) 4 _
        rw [upd_comm c.1 _ _ (show (4 : Nat) ≠ 3 by decide), upd_comm _ _ _ (show (4 : Nat) ≠ 6 by decide)]
      rw [← e9]; exact q
    · refine ⟨sF c 6 (nI 21), (2, 0) :: l, ⟨⟨rfl, rfl, rfl, rfl, rfl⟩, rfl, rfl⟩, by simp only [List.length_cons]; omega, fun Ψ k => ?_⟩
      refine mg_out w4 (by omega) ⟨by decide, Or.inl (by decide)⟩ (fun τ K hτ kk => ?_) k
      unfold wp_X11_doOuter
      refine br_f (by decide) (br_f (by decide) (br_t rfl ?_))
      rw [St_1 hτ (show (6 : Nat) ≠ 5 by decide), h6, e, St_1 hτ (show (3 : Nat) ≠ 5 by decide), w1]
      refine br_t rfl (s_fail hτ w4 (by omega) (fun τ1 h1 => ?_))
      unfold wp_X11_doOuter_b171 wp_X11_expect
      refine s_sees h1 w1 (by omega) (fun y => absurd (w3.symm.trans y) e2) (fun _ => br_t rfl ?_)
      refine s_fail2 h1 (by show ¬ c.2.1 3 j = -1; rw [hp2]; exact hne) (fun τ2 h2 => nm_e ?_)
      have f6 : τ2.1 6 = nI 20 := by
        rw [St_1 h2 (show (6 : Nat) ≠ 5 by decide), ← e]; exact h6
      rw [f6, nI_1]
      refine s_come (c := sF (sF c 6 (nI 21)) 4 (c.2.1 3 j)) ?_ (by omega) kk
      have q := St_sF h2 (show (6 : Nat) ≠ 5 by decide) (nI (20 + 1))
      have e9 : sF (sF (sF c 4 (c.2.1 3 j)) 4 ((sF c 4 (c.2.1 3 j)).1 4)) 6 (nI (20 + 1)) = sF (sF c 6 (nI 21)) 4 (c.2.1 3 j) := by
        unfold sF
        refine Prod.ext ?_ rfl
        show upd (upd (upd c.1 4 _) 4 (upd c.1 4 _ 4)) 6 _ = upd (upd c.1 6 _) 4 _
        rw [upd_upd, upd_comm _ _ _ (show (4 : Nat) ≠ 6 by decide)]; rfl
      rw [← e9]; exact q
  · have e2 : ¬ kd = 223 := hb.resolve_right e
    refine ⟨sF c 6 (nI (d + 1)), (2, 0) :: l, ⟨⟨rfl, rfl, rfl, rfl, rfl⟩, rfl, rfl⟩, by simp only [List.length_cons]; omega, fun Ψ k => ?_⟩
    refine mg_out w4 (by omega) ⟨by decide, Or.inl (by decide)⟩ (fun τ K hτ kk => ?_) k
    unfold wp_X11_doOuter
    refine br_f (by decide) (br_f (by decide) (br_t rfl ?_))
    rw [St_1 hτ (show (6 : Nat) ≠ 5 by decide), h6]
    refine pk_eq d 20 (fun y => absurd y e) (fun _ => ?_)
    unfold wp_X11_doOuter_b171
    refine s_expect hτ w1 w4 (by omega) (fun y => absurd (w3.symm.trans y) e2) (fun _ τ1 h1 => nm_e ?_)
    have f6 : τ1.1 6 = nI d := by rw [St_1 h1 (show (6 : Nat) ≠ 5 by decide)]; exact h6
    rw [f6, nI_1]
    refine s_come (c := sF (sF c 6 (nI (d + 1))) 4 (c.2.1 3 j)) ?_ (by omega) kk
    have q := St_sF h1 (show (6 : Nat) ≠ 5 by decide) (nI (d + 1))
    have e9 : sF (sF c 4 (c.2.1 3 j)) 6 (nI (d + 1)) = sF (sF c 6 (nI (d + 1))) 4 (c.2.1 3 j) := by
      unfold sF
      exact Prod.ext (upd_comm _ _ _ (by decide)) rfl
    rw [← e9]; exact q
/-- one more level -/
theorem SM_open {b c : S9} {g : GH} {S m d np T wp : Nat} {xo v14 v15 : Int32} {c' : S9} (h : SM b c g S m d np T xo (-1) wp) (hd : d < 20) (hC : c'.2.1 = c.2.1) (hn : NUM (cOpen b d v14 v15) c' S m (d + 1) np) (hxo : ∀ s, s < S → (v14 = nI s ↔ xo = nI s)) (how : 1 ≤ d → owR (cOpen b d v14 v15).2.1 (d + 1) np = owR b.2.1 d np)
    (hnew : LVe (cOpen b d v14 v15).2.1 c.2.1 g S m (owR (cOpen b d v14 v15).2.1 (d + 1) np) (d + 1)) : SM (cOpen b d v14 v15) c' g S m (d + 1) np T (-1) (-1) wp := by
  have hS := h.num.2.1
  have b14 : ∀ e, e ≤ d → (cOpen b d v14 v15).2.1 14 e = b.2.1 14 e := fun e he => pk_un (by omega)
  have b15 : ∀ e, e ≤ d → (cOpen b d v14 v15).2.1 15 e = b.2.1 15 e := fun e he => pk_un (by omega)
  have b16 : ∀ e, e ≤ d → (cOpen b d v14 v15).2.1 16 e = b.2.1 16 e := fun e he => pk_un (by omega)
  have n14 : (cOpen b d v14 v15).2.1 14 (d + 1) = v14 := pk_us
  have n16 : (cOpen b d v14 v15).2.1 16 (d + 1) = -1 := pk_us
  obtain ⟨h1, h2, h3, h4, h5, h6, h7, h8, h9, h10, h11, h12⟩ := h
  refine ⟨hn, ?_, ?_, ?_, h5, fun s hs => ?_, h7, h8, ?_, h10, fun s hs => ?_, h12⟩
  · rw [hC]
    refine ST_sets h2 (fun s hs => ⟨fun z => ?_, fun z => ?_⟩) (fun s hs => ⟨fun z => ?_, fun z => ?_⟩)
    · rcases z with ⟨e, e1, e2, e3⟩ | z
      · by_cases ee : e = d + 1
        · subst ee
          rw [n14] at e3; exact Or.inr ((hxo s hs).mp e3)
        · rw [b14 e (by omega)] at e3; exact Or.inl ⟨e, e1, by omega, e3⟩
      · exact absurd z.symm (nIm1 (by omega))
    · rcases z with ⟨e, e1, e2, e3⟩ | z
      · exact Or.inl ⟨e, e1, by omega, by rw [b14 e e2]; exact e3⟩
      · exact Or.inl ⟨d + 1, by omega, Nat.le_refl _, by rw [n14]; exact (hxo s hs).mpr z⟩
    · rcases z with ⟨e, e1, e2⟩ | z
      · by_cases ee : e = d + 1
        · subst ee; rw [n16] at e2; exact absurd e2.symm (nIm1 (by omega))
        · rw [b16 e (by omega)] at e2; exact Or.inl ⟨e, by omega, e2⟩
      · exact absurd z.symm (nIm1 (by omega))
    · rcases z with ⟨e, e1, e2⟩ | z
      · exact Or.inl ⟨e, by omega, by rw [b16 e e1]; exact e2⟩
      · exact absurd z.symm (nIm1 (by omega))
  · have hl := LVL_move (B' := (cOpen b d v14 v15).2.1) (C' := c.2.1) (g' := g) (m' := m) (ow' := owR (cOpen b d v14 v15).2.1 (d + 1) np) h3 hS (Nat.le_refl _) how (Nat.le_refl _) (fun e he => ⟨b14 e he, b15 e he, b16 e he⟩) rfl rfl rfl rfl rfl (fun _ _ => rfl) (fun _ _ => ⟨rfl, rfl, rfl⟩) (fun _ _ _ _ _ _ => ⟨rfl, rfl, rfl, fun _ => ⟨rfl, rfl⟩⟩)
    rw [hC]
    refine ⟨hl.1, fun e e1 e2 => ?_, fun e e1 => ?_⟩
    · by_cases ee : e = d + 1
      · subst ee; exact hnew
      · exact hl.2.1 e e1 (by omega)
    · by_cases ee : e = d + 1
      · subst ee; exact Or.inl n16
      · exact hl.2.2 e (by omega)
  · rw [hC]; exact h4
  · rw [hC]; exact h6 s hs
  · rw [hC]; exact h9
  · rw [hC]; exact h11 s hs
theorem MR_eq {b b' c c' : S9} {g : GH} {S pl : Nat} (h : MR b c g S pl) (h1 : c'.1 12 = c.1 12) (h2 : c'.2.1 12 = c.2.1 12) (h3 : c'.2.1 13 = c.2.1 13) (h4 : b'.2.1 10 = b.2.1 10) (h5 : b'.2.1 11 = b.2.1 11) : MR b' c' g S pl :=
  ⟨h1.trans h.1, h.2.1, by rw [h2, h3, h4, h5]; exact h.2.2⟩
theorem inD_open {b : S9} {d : Nat} {v14 v15 : Int32} (hd : 1 ≤ d) : inD (cOpen b d v14 v15).2.1 (d + 1) ↔ inD b.2.1 d := by
  have e : (cOpen b d v14 v15).2.1 14 1 = b.2.1 14 1 := pk_un (by omega)
  unfold inD
  rw [e]
  exact ⟨fun z => ⟨hd, z.2⟩, fun z => ⟨by omega, z.2⟩⟩
theorem owR_open {b : S9} {d np : Nat} {v14 v15 : Int32} (hd : 1 ≤ d) : owR (cOpen b d v14 v15).2.1 (d + 1) np = owR b.2.1 d np := by
  unfold owR
  by_cases z : inD b.2.1 d
  · rw [if_pos z, if_pos ((inD_open hd).mpr z)]
  · rw [if_neg z, if_neg (fun y => z ((inD_open hd).mp y))]
theorem cntL_open {b : S9} {d : Nat} {v14 v15 : Int32} : cntL (cOpen b d v14 v15).2.1 d = cntL b.2.1 d := cntL_congr (fun e h1 h2 => ⟨pk_un (by omega), pk_un (by omega)⟩)
/-- a block of a step s is opened -/
theorem w_open {b c : S9} {g : GH} {S m d np pl pr pj wp s j : Nat} {v15 : Int32} (hsm : SM b c g S m d np S (nI s) (-1) wp) (hmr : MR b c g S pl) (hdf : DF b c g S m d np pr pj (nI s)) (hrm : RM b.2.1 S m d np (if v15 = 0 then 1 else 0)) (ho7 : c.1 7 = 0) (hsl : s < S) (hls : b.2.1 16 d = nI s) (hd : d < 20)
    (hop : (v15 = 0 ∧ (b.2.1 2 s = 63 ∨ b.2.1 2 s = 42) ∧ g 6 s = 0 ∧ b.2.1 7 s = -1 ∧ b.2.1 6 s = -1 ∧ g 0 s + 1 = m) ∨ (v15 = 1 ∧ b.2.1 2 s = 63 ∧ ELok b.2.1 c.2.1 g S m s ∧ b.2.1 7 s = -1 ∧ g 3 s + 1 = m)) :
    R0 (cOpen b d (nI s) v15) (mOpen c d j) g S m (d + 1) np pl pr pj wp ∧ BS (cOpen b d (nI s) v15).2.1 g pj pr (d + 1) = (2, 0) :: (if v15 = 0 then (if b.2.1 2 s = 63 then (15, nI (g 0 s)) else (17, nI (g 0 s))) else (16, nI (g 3 s))) :: BS b.2.1 g pj pr d := by
  obtain ⟨n1, n2, n3, n4, n5, n6, n7, n8, n9, n10, n11⟩ := hsm.num
  have n14 : (cOpen b d (nI s) v15).2.1 14 (d + 1) = nI s := pk_us
  have n15 : (cOpen b d (nI s) v15).2.1 15 (d + 1) = v15 := pk_us
  have n16 : (cOpen b d (nI s) v15).2.1 16 (d + 1) = -1 := pk_us
  have hns : ¬ nI s = -1 := nIm1 (by omega)
  have hD0 : d = 0 → ¬ inD (cOpen b d (nI s) v15).2.1 (d + 1) := fun e z => by
    subst e
    have := z.2
    rw [n14] at this
    exact hns this
  obtain ⟨o1, o2, o3⟩ := ow_get hsm n2 hsl hls
  have how : g 2 s = owR (cOpen b d (nI s) v15).2.1 (d + 1) np := by
    rw [o1]
    unfold ow1
    by_cases e : d = 0
    · rw [if_pos e]; unfold owR; rw [if_neg (hD0 e)]
    · rw [if_neg e, owR_open (by omega)]
  have hnum : NUM (cOpen b d (nI s) v15) (mOpen c d j) S m (d + 1) np := ⟨n1, n2, n3, rfl, rfl, by omega, n7, n8, n9, n10, n11⟩
  have hopn : OPN (cOpen b d (nI s) v15).2.1 c.2.1 g S m (d + 1) s := by
    rcases hop with ⟨q1, q2, q3, q4, q5, q6⟩ | ⟨q1, q2, q3, q4, q5⟩
    · exact Or.inl ⟨n15.trans q1, q2, q3, q4, fun _ => q5, fun z => absurd n16 z⟩
    · exact Or.inr ⟨n15.trans q1, q2, q3, fun _ => q4, fun z => absurd n16 z⟩
  have hsm' := SM_open (c' := mOpen c d j) hsm hd rfl hnum (fun t ht => Iff.rfl) (fun z => owR_open z) (Or.inr ⟨s, n14, hsl, by show (cOpen b d (nI s) v15).2.1 16 d = _; exact (pk_un (by omega)).trans hls, how, hopn⟩)
  have hin : inD (cOpen b d (nI s) v15).2.1 (d + 1) ↔ inD b.2.1 d := by
    by_cases e : d = 0
    · exact ⟨fun z => absurd z (hD0 e), fun z => by have := z.1; omega⟩
    · exact inD_open (by omega)
  refine ⟨⟨hsm', MR_eq hmr rfl rfl rfl rfl rfl, ⟨fun z => by omega, fun _ => ⟨fun l hl z => by rw [n16] at z; exact absurd z.symm (nIm1 (by omega)), fun _ => ⟨fun z => absurd (n14.symm.trans z) hns, fun o ho z => ?_⟩⟩⟩, ⟨fun z => ?_, fun z => ?_⟩, ?_, ho7⟩, ?_⟩
  · have e := nIj (by omega) (by omega) (n14.symm.trans z)
    subst e
    rcases hop with ⟨q1, q2, q3, q4, q5, q6⟩ | ⟨q1, q2, q3, q4, q5⟩
    · exact ⟨fun _ => q6, fun y => by rw [n15, q1] at y; exact absurd y (by decide)⟩
    · exact ⟨fun y => by rw [n15, q1] at y; exact absurd y (by decide), fun _ => q5⟩
  · have hi := hin.mp z
    obtain ⟨i1, i2, i3, i4, i5, i6, i7, i8, i9, i10, i11, i12⟩ := hdf.1 hi
    have e0 : (cOpen b d (nI s) v15).2.1 16 0 = b.2.1 16 0 := by show upd (b.2.1 16) (d + 1) (-1) 0 = _; exact pk_un (by omega)
    have e1 : (cOpen b d (nI s) v15).2.1 16 1 = b.2.1 16 1 := by show upd (b.2.1 16) (d + 1) (-1) 1 = _; exact pk_un (by have := hi.1; omega)
    refine ⟨i1, i2, i3, i4, i5, i6, i7, ?_, fun l hl h0 => ?_, ?_, i11, i12⟩
    · exact MN_move i8 rfl e0 (fun _ _ => ⟨rfl, rfl⟩) (fun _ q => q) (fun q => q)
    · rw [e0] at h0
      refine ⟨(i9 l hl h0).1, fun y => (i9 l hl h0).2 ?_⟩
      rcases y with ⟨e, y1, y2, y3⟩ | y
      · by_cases ee : e = d + 1
        · subst ee; rw [n14] at y3; exact Or.inr y3
        · rw [show (cOpen b d (nI s) v15).2.1 14 e = b.2.1 14 e from pk_un ee] at y3
          exact Or.inl ⟨e, y1, by omega, y3⟩
      · exact absurd y.symm (nIm1 (by omega))
    · rw [e1]; exact i10
  · obtain ⟨i1, i2, ⟨y, i3⟩, i4⟩ := hdf.2 (fun y => z (hin.mpr y))
    exact ⟨i1, i2, ⟨y, MN_move i3 rfl (by show upd (b.2.1 16) (d + 1) (-1) 0 = _; exact pk_un (by omega)) (fun _ _ => ⟨rfl, rfl⟩) (fun _ q => q) (fun q => q)⟩, i4⟩
  · unfold RM at hrm ⊢
    have e : cntL (cOpen b d (nI s) v15).2.1 (d + 1) ≤ cntL b.2.1 d + (if v15 = 0 then 1 else 0) := by
      show cntL (cOpen b d (nI s) v15).2.1 d + _ ≤ _
      rw [cntL_open, n14, n15]
      by_cases e0 : v15 = 0
      · rw [if_neg (fun z => z.elim hns (fun y => y e0)), if_pos e0]; exact Nat.le_refl _
      · rw [if_pos (Or.inr e0), if_neg e0]; exact Nat.le_refl _
    by_cases z : inD b.2.1 d
    · rw [if_pos z] at hrm; rw [if_pos (hin.mpr z)]; omega
    · rw [if_neg z] at hrm; rw [if_neg (fun y => z (hin.mp y))]; omega
  · show (2, 0) :: ctxT (cOpen b d (nI s) v15).2.1 g (32 * pj + pr) (d + 1) :: bsT (cOpen b d (nI s) v15).2.1 g (32 * pj + pr) d = _
    have e1 : bsT (cOpen b d (nI s) v15).2.1 g (32 * pj + pr) d = bsT b.2.1 g (32 * pj + pr) d := BS_eq (pj := pj) (pr := pr) hsm n2 (Nat.le_refl _) (fun e _ _ => pk_un (by omega)) (fun e _ _ => pk_un (by omega)) (fun _ _ => rfl) (fun _ _ => rfl) (fun _ _ _ _ _ _ _ => rfl)
    have e2 : ctxT (cOpen b d (nI s) v15).2.1 g (32 * pj + pr) (d + 1) = (if v15 = 0 then (if b.2.1 2 s = 63 then (15, nI (g 0 s)) else (17, nI (g 0 s))) else (16, nI (g 3 s))) := by
      unfold ctxT
      rw [n14, n15, nI_clamp (by omega), if_neg hns]
      by_cases e5 : v15 = 0
      · rw [if_pos e5, if_pos e5]
        rw [show (cOpen b d (nI s) v15).2.1 2 s = b.2.1 2 s from rfl]
        by_cases e6 : b.2.1 2 s = 63
        · rw [if_pos e6, if_pos e6]
        · rw [if_neg e6, if_neg e6]
      · rw [if_neg e5, if_neg e5]
    rw [e1, e2]; rfl
