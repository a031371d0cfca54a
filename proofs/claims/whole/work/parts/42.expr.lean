/-! ===== words inside a statement ===== -/
theorem SM_wp {b c : S9} {g : GH} {S m d np T wp wp' : Nat} {xo xu : Int32} (h : SM b c g S m d np T xo xu wp) (hw : wp ≤ wp') : SM b c g S m d np T xo xu wp' := by
  obtain ⟨h1, h2, h3, h4, h5, h6, h7, h8, h9, h10, h11, h12⟩ := h
  exact ⟨h1, h2, h3, h4, h5, h6, h7, fun s hs => Nat.lt_of_lt_of_le (h8 s hs) hw, h9, h10, h11, h12⟩
theorem FXb.eqb {b b' : S9} {S : Nat} (h : FXb b b' S) : EQB b.2.1 b'.2.1 := by
  have r : ∀ k, k ≠ 9 ∧ k ≠ 10 ∧ k ≠ 11 → b'.2.1 k = b.2.1 k := fun k e => h.2.1 k e.1 e.2.1 e.2.2
  exact ⟨r 2 (by decide), r 3 (by decide), r 4 (by decide), r 5 (by decide), r 6 (by decide), r 7 (by decide), r 8 (by decide), r 12 (by decide), r 13 (by decide), r 14 (by decide), r 15 (by decide), r 16 (by decide)⟩
theorem FXc.arr {c c' : S9} {pl : Nat} (h : FXc c c' pl) (k : Nat) (e : k ≠ 12 ∧ k ≠ 13 ∧ k ≠ 16 ∧ k ≠ 17 ∧ k ≠ 18 ∧ k ≠ 19) : c'.2.1 k = c.2.1 k := h.2.1 k e.1 e.2.1 e.2.2.1 e.2.2.2.1 e.2.2.2.2.1 e.2.2.2.2.2
theorem FXc.sc {c c' : S9} {pl : Nat} (h : FXc c c' pl) (k : Nat) (e : k ≠ 3 ∧ k ≠ 7 ∧ k ≠ 9 ∧ k ≠ 12 ∧ k ≠ 14 ∧ k ≠ 15) : c'.1 k = c.1 k := h.1 k e.1 e.2.1 e.2.2.1 e.2.2.2.1 e.2.2.2.2.1 e.2.2.2.2.2
theorem FXc.eqc {c c' : S9} {pl : Nat} (h : FXc c c' pl) : EQC c.2.1 c'.2.1 := ⟨h.arr 6 (by decide), h.arr 7 (by decide), h.arr 10 (by decide), h.arr 14 (by decide), h.arr 15 (by decide)⟩
theorem CDs_fx {b b' c c' : S9} {g : GH} {S s pl : Nat} (h : CDs b.2.1 c.2.1 g s) (hb : FXb b b' S) (hc : FXc c c' pl) (hs : s ≠ S) (hg : g 10 s ≤ pl) : CDs b'.2.1 c'.2.1 g s := by
  have e2 : b'.2.1 2 = b.2.1 2 := hb.eqb.1
  obtain ⟨q1, q2, q3, q4, q5, q6, q7⟩ := h
  have cg : ∀ k, k < g 10 s - csg g s → c'.2.1 12 (csg g s + k) = c.2.1 12 (csg g s + k) ∧ c'.2.1 13 (csg g s + k) = c.2.1 13 (csg g s + k) := fun k hk => hc.2.2.2 _ (by omega)
  refine ⟨(hb.2.2.2 s hs).trans q1, by rw [hc.arr 8 (by decide)]; exact q2, by rw [hc.arr 9 (by decide)]; exact q3, q4, ?_, hok_congr (fun k hk => (cg k hk).1) q6, ?_⟩
  · rw [hc.arr 11 (by decide), trep_congr cg]; exact q5
  · rw [hgt_congr (fun k hk => (cg k hk).1), e2]; exact q7
theorem AX_fx {b b' c c' : S9} {g : GH} {S m d np pl0 pl pr pj wp wp' : Nat} (h : AX b c g S m d np pl0 pr pj wp) (hb : FXb b b' S) (hc : FXc c c' pl) (hpl : pl0 ≤ pl) (hw : wp ≤ wp') : AX b' c' g S m d np pl0 pr pj wp' := by
  obtain ⟨n1, n2, n3, n4, n5, n6, n7, n8, n9, n10, n11⟩ := h.sm.num
  have eB := hb.eqb
  have eC := hc.eqc
  have e2 : b'.2.1 2 = b.2.1 2 := eB.1
  have hn : NUM b' c' (S + 1) m d np := ⟨(hb.1 4 (by omega)).trans n1, n2, (hc.sc 8 (by decide)).trans n3, (hb.1 6 (by omega)).trans n4, (hc.sc 6 (by decide)).trans n5, n6, (hb.1 5 (by omega)).trans n7, (hc.sc 13 (by decide)).trans n8, n9, (hc.sc 11 (by decide)).trans n10, (hc.sc 4 (by decide)).trans n11⟩
  have exo : xoS b'.2.1 S = xoS b.2.1 S := by unfold xoS; rw [e2]
  have exc : xcS b'.2.1 S = xcS b.2.1 S := by unfold xcS; rw [e2]
  have hsm := SM_congr h.sm eB eC hn (fun s hs => CDs_fx (h.sm.cd s hs) hb hc (by omega) (by have := h.sm.gm s hs; have := h.pl; omega))
  refine ⟨?_, ?_, ?_, ?_, ?_, h.g0, h.g1, h.g6, ?_, ?_, ?_, h.pl⟩
  · rw [exo]; exact SM_wp hsm hw
  · rw [exo]; exact DF_congr h.df eB eC (hb.1 8 (by omega))
  · rw [exc]; exact RM_congr eB h.rm
  · rw [eB.2.2.2.2.2.2.2.2.2.2.2]; exact h.ls
  · exact (hb.1 9 (by omega)).trans h.cs
  · rw [eB.2.2.2.2.1]; exact h.b6
  · rw [eB.2.2.2.2.2.1]; exact h.b7
  · rw [hc.arr 8 (by decide)]; exact h.cf
theorem BS_fx {b b' : S9} {g : GH} {S pj pr d : Nat} (hb : FXb b b' S) : BS b'.2.1 g pj pr d = BS b.2.1 g pj pr d := bsT_cg hb.eqb
theorem R0_3 {b c : S9} {g : GH} {S m d np pl pr pj wp wp' : Nat} {v q : Int32} (h : R0 b c g S m d np pl pr pj wp) (hw : wp ≤ wp') : R0 (sF b 7 q) (sF c 3 v) g S m d np pl pr pj wp' := ⟨SM_wp h.sm hw, h.mr, h.pn, h.df, h.rm, h.o7⟩
/-! signs and ends on the reference's side -/
theorem m_sign {c : S9} {l : TL} {a : Int32} {j : Nat} {Ψ : Int32 → S9 → Prop} (ha : i2c a = a) (hw : wd c j (100 + a)) (hl : l.length < 3900) (k : MG (sF c 3 (nI (j + 1))) l Ψ) : MG c ((4, a) :: l) Ψ := by
  obtain ⟨w1, w2, w3, w4⟩ := hw
  refine mg_in w4 (by omega) (Or.inl rfl) (fun τ K hτ kk => dI_sign ?_) k
  rw [ha]
  exact s_expect hτ w1 w4 (by omega) (fun _ => kk) (fun e => absurd w3 e)
theorem m_signBad {c : S9} {l : TL} {a kd : Int32} {j : Nat} (ha : i2c a = a) (hw : wd c j kd) (hk : ¬ kd = 100 + a) (hl : l.length < 3900) : MFail c ((4, a) :: l) j := by
  obtain ⟨w1, w2, w3, w4⟩ := hw
  refine ⟨c, l, FF.rf c, by omega, fun Ψ k => mg_in w4 (by omega) (Or.inl rfl) (fun τ K hτ kk => dI_sign ?_) k⟩
  rw [ha]
  exact s_expect hτ w1 w4 (by omega) (fun e => absurd (w3.symm.trans e) hk) (fun _ => kk)
def mEnd (c : S9) (h : Nat) : S9 := sA (sA c 9 (upd (c.2.1 9) h (c.1 12))) 11 (upd (c.2.1 11) h (c.1 14))
theorem m_ended {c : S9} {l : TL} {h : Nat} {Ψ : Int32 → S9 → Prop} (h4 : c.1 4 = -1) (hh : h < 1200) (hl : l.length < 3900) (k : MG (mEnd c h) l Ψ) : MG c ((14, nI h) :: l) Ψ := by
  refine mg_out h4 (by omega) ⟨by decide, Or.inr (by decide)⟩ (fun τ K hτ kk => ?_) k
  unfold wp_X11_doOuter
  have hin : vp_in (nI h) 1200 := pk_in h 1200 hh
  refine br_f (by decide) (br_f (by decide) (br_f (by decide) (br_t rfl ⟨hin, nm_e ⟨hin, nm_e ?_⟩⟩)))
  rw [nI_clamp (by omega), St_1 hτ (show (12 : Nat) ≠ 5 by decide), St_2 hτ (show (9 : Nat) ≠ 4 by decide) (by decide)]
  rw [show (sA τ 9 (upd (c.2.1 9) h (c.1 12))).2.1 11 = c.2.1 11 from St_2 hτ (by decide) (by decide), show (sA τ 9 (upd (c.2.1 9) h (c.1 12))).1 14 = c.1 14 from St_1 hτ (by decide)]
  exact kk _ (St_sA (St_sA hτ (by decide) (by decide) _) (by decide) (by decide) _)
theorem MFail.back2 {c c1 : S9} {th th1 : TL} {j : Nat} (h : MFail c1 th1 j) (hf : FF c c1) (h3 : c1.2.1 3 = c.2.1 3) (k : ∀ Ψ : Int32 → S9 → Prop, MG c1 th1 Ψ → MG c th Ψ) : MFail c th j := by
  obtain ⟨c2, l2, g1, g2, g3⟩ := h
  refine ⟨c2, l2, hf.trans g1, g2, fun Ψ kk => k Ψ (g3 Ψ ?_)⟩
  rw [h3]; exact kk
theorem FF_end (c : S9) (h : Nat) : FF c (mEnd c h) := ⟨⟨rfl, rfl, rfl, rfl, rfl⟩, rfl, rfl⟩
/-! an equals sign, a call's end -/
theorem w_state2 {b c : S9} {w th : TL} {j p : Nat} {x kd v : Int32} (h : Q2 b c w th j p) (h7 : b.1 7 = 2) (hw : WH b c j p x kd v) : wAcc (wp_X0_takes x) b c w th j p ∨ wRej (wp_X0_takes x) b c w th j := by
  obtain ⟨g, S, m, d, np, pl0, pl, pr, pj, h1, f, hax, hxq, hfin, hk, hpl, ew, eth⟩ := h
  subst ew; subst eth
  have hd := hax.sm.num.2.2.2.2.2.1
  have hbl := bsT_len b.2.1 g (32 * pj + pr) d
  have hsg := wk_sg hw.wk 61 ⟨by omega, by omega, by omega, by omega, by omega⟩
  have tk : ∀ (σ : S9) (Φ : Int32 → S9 → Prop), Cs b [] σ → ((x = (61 : Int32) → wp_X0_awaitsValue σ (fun r9 σ4 => (r9 = 0 → Φ (0 : Int32) σ4) ∧ (¬ r9 = 0 → Φ (1 : Int32) σ4))) ∧ (¬ x = (61 : Int32) → Φ (0 : Int32) σ)) → wp_X0_takes x σ Φ := by
    intro σ Φ hσ hh
    unfold wp_X0_takes
    rw [Cs_1 hσ (show (7 : Nat) ≠ 13 by decide), h7]
    exact br_f (by decide) (br_f (by decide) (br_t rfl hh))
  by_cases ek : kd = 161
  · have ex : x = 61 := hsg.mp ek
    have hw' : wd c j (100 + 61) := by have := hw.wd; rw [ek] at this; exact this
    have f2 : FXc c (sF c 3 (nI (j + 1))) pl := FXc_sF (Or.inl rfl)
    have hax1 : AX (sF b 16 1) (sF c 3 (nI (j + 1))) g S m d np pl0 pr pj (p + 1) := AX_fx hax (FXb_sF (by omega)) f2 hxq.1.1.2.2.2.2 (by omega)
    have hax' : AX (sF (sF b 16 1) 7 4) (sF c 3 (nI (j + 1))) g S m d np pl0 pr pj (p + 1) := hax1
    have hxr : XR (sF (sF b 16 1) 7 4) (sF c 3 (nI (j + 1))) S pl0 pl h1 f [] true false h1 := ⟨hxq, fun z => absurd z (by decide), rfl⟩
    have hk65 : ¬ b.2.1 2 S = 65 := by rcases hk with e | e <;> (rw [e]; decide)
    have hbx : bEx b.2.1 g S pj pr d = (14, nI (g 0 S)) :: (4, 59) :: BS b.2.1 g pj pr d := by
      unfold bEx
      rcases hk with e | e <;> rw [e, if_neg (by decide), if_neg (by decide)]
    refine Or.inl ⟨sF (sF b 16 1) 7 4, sF c 3 (nI (j + 1)), [], xTh (bEx b.2.1 g S pj pr d) false [] true, Or.inr (Or.inr (Or.inr (Or.inr (Or.inl ⟨rfl, g, S, m, d, np, pl0, pl, pr, pj, h1, f, h1, true, hax', hxr, hfin, hk65, by simp only [List.length_nil]; omega, rfl⟩)))), WFb_7 ⟨fun k hk => by show upd b.1 16 _ k = _; rw [pk_un (by omega)], rfl, rfl, rfl⟩, f2.wf, rfl, hw.wd.2.2.2, fun σ Φ hσ k => tk σ Φ hσ (br_t ex ?_), fun Ψ k => ?_⟩
    · unfold wp_X0_awaitsValue wp_X1_goOnWithValue wp_X0_awaits
      exact nm_e (nm_e ⟨rfl, br_f (by decide) (k _ (Cs_sF (Cs_sF hσ (by decide) _) (by decide) _))⟩)
    · rw [fr_f0, hbx] at k
      refine m_sign rfl hw' (by unfold bEq BS; simp only [List.length_cons]; omega) ?_
      exact mg_expr (c := sF c 3 (nI (j + 1))) hw.wd.2.2.2 (by unfold BS; simp only [List.length_cons]; omega) k
  · refine Or.inr ⟨b, [], WFb.rf b, fun σ Φ hσ k => tk σ Φ hσ (br_f (fun z => ek (hsg.mpr z)) (k σ hσ)), m_signBad rfl hw.wd ek (by unfold bEq BS; simp only [List.length_cons]; omega)⟩
theorem w_state5 {b c : S9} {w th : TL} {j p : Nat} {x kd v : Int32} (h : Q5 b c w th j p) (h7 : b.1 7 = 5) (hw : WH b c j p x kd v) : wAcc (wp_X0_takes x) b c w th j p ∨ wRej (wp_X0_takes x) b c w th j := by
  obtain ⟨g, S, m, d, np, pl, pr, pj, hR, hpl, eth⟩ := h
  subst eth
  have hd := hR.sm.num.2.2.2.2.2.1
  have hbl := bsT_len b.2.1 g (32 * pj + pr) d
  have hsg := wk_sg hw.wk 59 ⟨by omega, by omega, by omega, by omega, by omega⟩
  have tk : ∀ (σ : S9) (Φ : Int32 → S9 → Prop), Cs b w σ → ((x = (59 : Int32) → wp_X0_awaits (0 : Int32) σ (fun r23 σ10 => (r23 = 0 → Φ (0 : Int32) σ10) ∧ (¬ r23 = 0 → Φ (1 : Int32) σ10))) ∧ (¬ x = (59 : Int32) → Φ (0 : Int32) σ)) → wp_X0_takes x σ Φ := by
    intro σ Φ hσ hh
    unfold wp_X0_takes
    rw [Cs_1 hσ (show (7 : Nat) ≠ 13 by decide), h7]
    exact br_f (by decide) (br_f (by decide) (br_f (by decide) (br_f (by decide) (br_f (by decide) (br_t rfl hh)))))
  by_cases ek : kd = 159
  · have ex : x = 59 := hsg.mp ek
    have hw' : wd c j (100 + 59) := by have := hw.wd; rw [ek] at this; exact this
    exact Or.inl ⟨sF b 7 0, sF c 3 (nI (j + 1)), w, BS b.2.1 g pj pr d, Or.inl ⟨rfl, g, S, m, d, np, pl, pr, pj, R0_3 hR (by omega), by omega, rfl⟩, WFb_7 (WFb.rf b), (FXc_sF (pl := 0) (Or.inl rfl)).wf, rfl, hw.wd.2.2.2, fun σ Φ hσ k => tk σ Φ hσ (br_t ex (c_aw (k _ (Cs_sF hσ (by decide) _)))), fun Ψ k => m_sign rfl hw' (by unfold BS; omega) k⟩
  · exact Or.inr ⟨b, w, WFb.rf b, fun σ Φ hσ k => tk σ Φ hσ (br_f (fun z => ek (hsg.mpr z)) (k σ hσ)), m_signBad rfl hw.wd ek (by unfold BS; omega)⟩
theorem SM_3 {b c : S9} {g : GH} {S m d np T wp wp' : Nat} {xo xu : Int32} (h : SM b c g S m d np T xo xu wp) (hw : wp ≤ wp') : SM b c g S m d np T xo xu wp' := SM_wp h hw
theorem wfb_open (b : S9) (d : Nat) (o el : Int32) : WFb b (cOpen b d o el) := ⟨fun k hk => by show upd (upd b.1 6 _) 7 _ k = _; rw [pk_un (by omega), pk_un (by omega)], rfl, rfl, rfl⟩
theorem wfc_open (c : S9) (d j : Nat) : WFc c (mOpen c d j) := ⟨fun k hk => by show upd (upd c.1 3 _) 6 _ k = _; rw [pk_un (by omega), pk_un (by omega)], rfl, rfl, rfl, rfl, rfl⟩
theorem w_state6 {b c : S9} {w th : TL} {j p : Nat} {x kd v : Int32} (h : Q6 b c w th j p) (h7 : b.1 7 = 6) (hw : WH b c j p x kd v) : wAcc (wp_X0_takes x) b c w th j p ∨ wRej (wp_X0_takes x) b c w th j := by
  obtain ⟨g, S, m, np, pl, pr, pj, hR, hpl, eth⟩ := h
  subst eth
  have hbl := bsT_len b.2.1 g (32 * pj + pr) 0
  have hnum := hR.sm.num
  have hsg := wk_sg hw.wk 123 ⟨by omega, by omega, by omega, by omega, by omega⟩
  have tk : ∀ (σ : S9) (Φ : Int32 → S9 → Prop), Cs b w σ → ((x = (123 : Int32) → wp_X0_opensBlock (-1 : Int32) (0 : Int32) σ (fun r27 σ11 => (r27 = 0 → Φ (0 : Int32) σ11) ∧ (¬ r27 = 0 → Φ (1 : Int32) σ11))) ∧ (¬ x = (123 : Int32) → Φ (0 : Int32) σ)) → wp_X0_takes x σ Φ := by
    intro σ Φ hσ hh
    unfold wp_X0_takes
    rw [Cs_1 hσ (show (7 : Nat) ≠ 13 by decide), h7]
    exact br_f (by decide) (br_f (by decide) (br_f (by decide) (br_f (by decide) (br_f (by decide) (br_f (by decide) (br_t rfl hh))))))
  by_cases ek : kd = 223
  · have ex : x = 123 := hsg.mp ek
    have hw' : wd c j 223 := by have := hw.wd; rw [ek] at this; exact this
    obtain ⟨r1, r2⟩ := w_openP (j := j) hR
    have r1' : R0 (cOpen b 0 (-1) 0) (mOpen c 0 j) g S m 1 np pl pr pj (p + 1) := ⟨SM_wp r1.sm (by omega), r1.mr, r1.pn, r1.df, r1.rm, r1.o7⟩
    exact Or.inl ⟨cOpen b 0 (-1) 0, mOpen c 0 j, w, _, Or.inl ⟨rfl, g, S, m, 1, np, pl, pr, pj, r1', by omega, r2.symm⟩, wfb_open _ _ _ _, wfc_open _ _ _, rfl, hw.wd.2.2.2, fun σ Φ hσ k => tk σ Φ hσ (br_t ex (s_opens hσ hnum.2.2.2.1 (by omega) rfl (fun σ' h' => br_f (by decide) (k σ' h')))), fun Ψ k => m_open hw' hnum.2.2.2.2.1 (by omega) (by unfold BS; simp only [List.length_cons]; omega) k⟩
  · exact Or.inr ⟨b, w, WFb.rf b, fun σ Φ hσ k => tk σ Φ hσ (br_f (fun z => ek (hsg.mpr z)) (k σ hσ)), m_openBad hw.wd hnum.2.2.2.2.1 (by omega) (by unfold BS; simp only [List.length_cons]; omega) (Or.inl ek) ⟨p, by have := hw.p3; omega, hw.pl⟩⟩
theorem w_state7 {b c : S9} {w th : TL} {j p : Nat} {x kd v : Int32} (h : Q7 b c w th j p) (h7 : b.1 7 = 7) (hw : WH b c j p x kd v) : wAcc (wp_X0_takes x) b c w th j p ∨ wRej (wp_X0_takes x) b c w th j := by
  obtain ⟨g, S, m, d, np, pl, pr, pj, s, hR, hpl, eth⟩ := h
  subst eth
  have hbl := bsT_len b.2.1 g (32 * pj + pr) d
  obtain ⟨n1, n2, n3, n4, n5, n6, n7, n8, n9, n10, n11⟩ := hR.sm.num
  have hsg := wk_sg hw.wk 123 ⟨by omega, by omega, by omega, by omega, by omega⟩
  have tk : ∀ (σ : S9) (Φ : Int32 → S9 → Prop), Cs b w σ → ((x = (123 : Int32) → wp_X0_opensBlock (nI s) (1 : Int32) σ (fun r31 σ12 => (r31 = 0 → Φ (0 : Int32) σ12) ∧ (¬ r31 = 0 → Φ (1 : Int32) σ12))) ∧ (¬ x = (123 : Int32) → Φ (0 : Int32) σ)) → wp_X0_takes x σ Φ := by
    intro σ Φ hσ hh
    unfold wp_X0_takes
    rw [Cs_1 hσ (show (7 : Nat) ≠ 13 by decide), h7, Cs_1 hσ (show (6 : Nat) ≠ 13 by decide), n4, nI_clamp (by omega), Cs_2 hσ (show (16 : Nat) ≠ 17 by decide) (by decide), hR.ls]
    exact br_f (by decide) (br_f (by decide) (br_f (by decide) (br_f (by decide) (br_f (by decide) (br_f (by decide) (br_f (by decide) ⟨fun z => ⟨pk_in d 21 (by omega), hh.1 z⟩, hh.2⟩))))))
  have rej : ¬ kd = 223 ∨ d = 20 → MFail c ((3, 0) :: (16, nI (g 3 s)) :: BS b.2.1 g pj pr d) j := fun z => m_openBad hw.wd n5 n6 (by unfold BS; simp only [List.length_cons]; omega) z ⟨p, by have := hw.p3; omega, hw.pl⟩
  by_cases ek : kd = 223
  · have ex : x = 123 := hsg.mp ek
    by_cases ed : d = 20
    · subst ed
      exact Or.inr ⟨b, w, WFb.rf b, fun σ Φ hσ k => tk σ Φ hσ (br_t ex (s_opens20 hσ n4 (br_t rfl (k σ hσ)))), rej (Or.inr rfl)⟩
    · have hw' : wd c j 223 := by have := hw.wd; rw [ek] at this; exact this
      obtain ⟨r1, r2⟩ := w_open (v15 := 1) (j := j) hR.sm hR.mr hR.df (by rw [if_neg (by decide)]; exact hR.rm) hR.o7 hR.sl hR.ls (by omega) (Or.inr ⟨rfl, hR.k2, hR.el, hR.b7, hR.g3⟩)
      have r1' : R0 (cOpen b d (nI s) 1) (mOpen c d j) g S m (d + 1) np pl pr pj (p + 1) := ⟨SM_wp r1.sm (by omega), r1.mr, r1.pn, r1.df, r1.rm, r1.o7⟩
      rw [if_neg (by decide)] at r2
      exact Or.inl ⟨cOpen b d (nI s) 1, mOpen c d j, w, _, Or.inl ⟨rfl, g, S, m, d + 1, np, pl, pr, pj, r1', by omega, r2.symm⟩, wfb_open _ _ _ _, wfc_open _ _ _, rfl, n11, fun σ Φ hσ k => tk σ Φ hσ (br_t ex (s_opens hσ n4 (by omega) rfl (fun σ' h' => br_f (by decide) (k σ' h')))), fun Ψ k => m_open hw' n5 (by omega) (by unfold BS; simp only [List.length_cons]; omega) k⟩
  · exact Or.inr ⟨b, w, WFb.rf b, fun σ Φ hσ k => tk σ Φ hσ (br_f (fun z => ek (hsg.mpr z)) (k σ hσ)), rej (Or.inl ek)⟩
theorem w_state1 {b c : S9} {w th : TL} {j p : Nat} {x kd v : Int32} (h : Q1 b c w th j p) (h7 : b.1 7 = 1) (hw : WH b c j p x kd v) (hx0 : ¬ x = 0) : wAcc (wp_X0_takes x) b c w th j p ∨ wRej (wp_X0_takes x) b c w th j := by
  obtain ⟨g, S, m, d, np, pl, pr, pj, s, xu, hR, hpl, eth⟩ := h
  subst eth
  have hsg := wk_sg hw.wk 58 ⟨by omega, by omega, by omega, by omega, by omega⟩
  have tk : ∀ (σ : S9) (Φ : Int32 → S9 → Prop), Cs b w σ → ((x = (58 : Int32) → wp_X0_awaits (7 : Int32) σ (fun r6 σ3 => narrow .boolean (.int r6) = .int r6 ∧ Φ r6 σ3)) ∧ (¬ x = (58 : Int32) → wp_X0_beginsStatement x σ (fun r5 σ2 => narrow .boolean (.int r5) = .int r5 ∧ Φ r5 σ2))) → wp_X0_takes x σ Φ := by
    intro σ Φ hσ hh
    unfold wp_X0_takes
    rw [Cs_1 hσ (show (7 : Nat) ≠ 13 by decide), h7]
    exact br_f (by decide) (br_t rfl hh)
  by_cases ek : kd = 158
  · have ex : x = 58 := hsg.mp ek
    have hw' : wd c j 158 := by have := hw.wd; rw [ek] at this; exact this
    obtain ⟨c', g', r1, r2, r3, r4, r5, r6, r7⟩ := w_else hR hw'
    have r1' : R7 (sF b 7 7) c' g' S (m + 1) d np pl pr pj (p + 1) s := r1
    refine Or.inl ⟨sF b 7 7, c', w, (3, 0) :: (16, nI m) :: BS b.2.1 g pj pr d, Or.inr (Or.inr (Or.inr (Or.inr (Or.inr (Or.inr (Or.inr ⟨rfl, g', S, m + 1, d, np, pl, pr, pj, s, r1', by omega, ?_⟩)))))), WFb_7 (WFb.rf b), r2, r3, r4, fun σ Φ hσ k => tk σ Φ hσ (br_t ex (c_aw2 (k _ (Cs_sF hσ (by decide) _)))), r7⟩
    rw [r6]
    show _ = (3, 0) :: (16, nI m) :: BS b.2.1 g' pj pr d
    rw [r5]
  · obtain ⟨c', g', r1, r2, r3, r4, rf, r5, r6⟩ := w_noElse hR hw.wd ek
    have hw' : WH b c' j p x kd v := by
      obtain ⟨a1, ⟨a2, a3, a4, a5⟩, a6, a7, a8, a9, a10, a11⟩ := hw
      refine ⟨a1, ⟨r3.trans a2, a3, by rw [r2.2.2.1]; exact a4, r4.trans a5⟩, by rw [r2.2.2.2.1]; exact a6, by rw [r2.2.2.2.2.1]; exact a7, a8, a9, a10, ?_⟩
      rw [r2.2.2.1]; exact a11
    have nx : ¬ x = 58 := fun z => ek (hsg.mpr z)
    rw [← r5] at r6
    rcases w_state0 (w := w) r1 hpl hw' hx0 with ⟨b2, c2, w2, th2, q1, q2, q3, q4, q5, q6, q7⟩ | ⟨b2, w2, q1, q2, q3⟩
    · refine Or.inl ⟨b2, c2, w2, th2, q1, q2, r2.trans q3, q4, q5, fun σ Φ hσ k => tk σ Φ hσ (br_f nx (q6 σ _ hσ (fun σ' h' => ⟨rfl, k σ' h'⟩))), fun Ψ k => ?_⟩
      rw [← r5]; exact r6 Ψ (q7 Ψ k)
    · refine Or.inr ⟨b2, w2, q1, fun σ Φ hσ k => tk σ Φ hσ (br_f nx (q2 σ _ hσ (fun σ' h' => ⟨rfl, k σ' h'⟩))), q3.back2 rf r2.2.2.2.2.1 (fun Ψ k => ?_)⟩
      rw [← r5]; exact r6 Ψ k
theorem w_state00 {b c : S9} {w th : TL} {j p : Nat} {x kd v : Int32} (h : Q0 b c w th j p) (h7 : b.1 7 = 0) (hw : WH b c j p x kd v) (hx0 : ¬ x = 0) : wAcc (wp_X0_takes x) b c w th j p ∨ wRej (wp_X0_takes x) b c w th j := by
  obtain ⟨g, S, m, d, np, pl, pr, pj, hR, hpl, eth⟩ := h
  subst eth
  have tk : ∀ (σ : S9) (Φ : Int32 → S9 → Prop), Cs b w σ → wp_X0_beginsStatement x σ (fun r5 σ2 => narrow .boolean (.int r5) = .int r5 ∧ Φ r5 σ2) → wp_X0_takes x σ Φ := by
    intro σ Φ hσ hh
    unfold wp_X0_takes
    rw [Cs_1 hσ (show (7 : Nat) ≠ 13 by decide), h7]
    exact br_t rfl hh
  rcases w_state0 (w := w) hR hpl hw hx0 with ⟨b2, c2, w2, th2, q1, q2, q3, q4, q5, q6, q7⟩ | ⟨b2, w2, q1, q2, q3⟩
  · exact Or.inl ⟨b2, c2, w2, th2, q1, q2, q3, q4, q5, fun σ Φ hσ k => tk σ Φ hσ (q6 σ _ hσ (fun σ' h' => ⟨rfl, k σ' h'⟩)), q7⟩
  · exact Or.inr ⟨b2, w2, q1, fun σ Φ hσ k => tk σ Φ hσ (q2 σ _ hσ (fun σ' h' => ⟨rfl, k σ' h'⟩)), q3⟩
