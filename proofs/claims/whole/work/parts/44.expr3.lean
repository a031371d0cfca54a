/-! ===== an expression at its end ===== -/
def eS (B : AR) (S : Nat) : Int32 := if B 2 S = 63 ∨ B 2 S = 42 then 123 else 59
theorem s_ends {b σ : S9} {w : TL} {due : Bool} {S : Nat} {x : Int32} {F : Int32 → S9 → Prop} (h : Cs b w σ) (h16 : b.1 16 = (if due then 1 else 0)) (h14 : b.1 14 = nI (pars w)) (hp : pars w ≤ 20) (h9 : b.1 9 = nI S) (hS : S < 300) (k1 : due = false ∧ pars w = 0 ∧ x = eS b.2.1 S → F 1 σ) (k0 : ¬ (due = false ∧ pars w = 0 ∧ x = eS b.2.1 S) → F 0 σ) : wp_X0_endsExpression x σ F := by
  unfold wp_X0_endsExpression
  refine s_mayEnd h h16 h14 hp (fun z => br_f (by decide) ?_) (fun z => br_t rfl (k0 (fun y => z ⟨y.1, y.2.1⟩)))
  unfold wp_X6_isCondition
  have fin : ∀ e : Int32, e = eS b.2.1 S → wp_X0_endsExpression_b32 F e x σ := by
    intro e he
    unfold wp_X0_endsExpression_b32
    exact br_c (fun y => k1 ⟨z.1, z.2, y.trans he⟩) (fun y => k0 (fun q => y (q.2.2.trans he.symm)))
  rw [Cs_1 h (show (9 : Nat) ≠ 13 by decide), h9, nI_clamp (by omega), Cs_2 h (show (2 : Nat) ≠ 17 by decide) (by decide)]
  have hin : vp_in (nI S) 300 := pk_in S 300 hS
  refine ⟨hin, br_c (fun y => br_f (by decide) (fin 123 ?_)) (fun y => ⟨hin, br_c (fun y2 => br_f (by decide) (fin 123 ?_)) (fun y2 => br_t rfl (fin 59 ?_))⟩)⟩
  · unfold eS; rw [if_pos (Or.inl y)]
  · unfold eS; rw [if_pos (Or.inr y2)]
  · unfold eS; rw [if_neg (fun q => q.elim y y2)]
theorem w_state4 {b c : S9} {w th : TL} {j p : Nat} {x kd v : Int32} (h : Q4 b c w th j p) (h7 : b.1 7 = 4) (hw : WH b c j p x kd v) : wAcc (wp_X0_takes x) b c w th j p ∨ wRej (wp_X0_takes x) b c w th j := by
  obtain ⟨g, S, m, d, np, pl0, pl, pr, pj, h1, f, hb, due, hax, hxr, hfin, hk65, hpl, eth⟩ := h
  subst eth
  obtain ⟨n1, n2, n3, n4, n5, n6, n7, n8, n9, n10, n11⟩ := hax.sm.num
  have hm := RM_m hax.rm n2 n9
  have hg0 := hax.g0
  have hbl := bsT_len b.2.1 g (32 * pj + pr) d
  have hbl2 : (BS b.2.1 g pj pr d).length < 3800 := by unfold BS; omega
  have hj3 := hw.j3
  have hbase := bEx_len b.2.1 g S pj pr d n6
  have x16 := hxr.2.2
  have x14 := hxr.1.2.2.1
  have tk : ∀ (σ : S9) (Φ : Int32 → S9 → Prop), Cs b w σ → wp_X0_endsExpression x σ (fun r17 σ7 => (r17 = 0 → wp_X1_takes x σ7 (fun r19 σ8 => narrow .boolean (.int r19) = .int r19 ∧ Φ r19 σ8)) ∧ (¬ r17 = 0 → wp_X0_closesExpression x σ7 (fun r20 σ9 => narrow .boolean (.int r20) = .int r20 ∧ Φ r20 σ9))) → wp_X0_takes x σ Φ := by
    intro σ Φ hσ hh
    unfold wp_X0_takes
    rw [Cs_1 hσ (show (7 : Nat) ≠ 13 by decide), h7]
    exact br_f (by decide) (br_f (by decide) (br_f (by decide) (br_f (by decide) (br_t rfl hh))))
  have hes : x = eS b.2.1 S ↔ kd = 100 + eS b.2.1 S := by
    unfold eS
    split
    · exact (wk_sg hw.wk 123 ⟨by omega, by omega, by omega, by omega, by omega⟩).symm
    · exact (wk_sg hw.wk 59 ⟨by omega, by omega, by omega, by omega, by omega⟩).symm
  by_cases hend : due = false ∧ pars w = 0 ∧ x = eS b.2.1 S
  · -- the end
    obtain ⟨ed, ep, ex⟩ := hend
    subst ed
    have ek : kd = 100 + eS b.2.1 S := hes.mp ex
    have hkn : ¬ kd = 142 ∧ ¬ kd = 147 ∧ ¬ kd = 137 ∧ ¬ kd = 143 ∧ ¬ kd = 145 ∧ ¬ kd = 160 ∧ ¬ kd = 161 := by
      rw [ek]; unfold eS
      split
      · decide
      · decide
    obtain ⟨y1, y2, y3, y4, y5, y6, y7, y8, y9⟩ := hxr.1
    simp only [Bool.false_eq_true, if_false] at y5
    obtain ⟨c1, h2, d1, d2, d3, d4, d5, d6, d7⟩ := x_downAll (base := bEx b.2.1 g S pj pr d) hbase hxr.1 (hxr.2.1 rfl) (fun z => absurd z (by decide)) (by omega) hw.wd hkn.1 hkn.2.1 hkn.2.2.1 hkn.2.2.2.1 hkn.2.2.2.2.1 (Or.inl hkn.2.2.2.2.2)
    obtain ⟨k1, k2, k3, k4⟩ := wdn_keeps (r := 1) (S := S) w b pl
    have hp0 : pars (wdn 1 S b pl w).2.2 = 0 := by
      have q1 := d5.2.2.1.1
      rw [k1, x14.1] at q1
      have q2 := d5.2.2.1.2.2
      rw [← nIj (by omega) (by omega) q1]; exact ep
    have hw0 := pars_nil d5.2.1 hp0
    obtain ⟨b1, hb1⟩ : ∃ b1, b1 = (wdn 1 S b pl w).1 := ⟨_, rfl⟩
    obtain ⟨pl1, hpl1⟩ : ∃ pl1, pl1 = (wdn 1 S b pl w).2.1 := ⟨_, rfl⟩
    rw [hw0, fr_n3] at d7
    rw [hw0, ← hb1, ← hpl1] at d5
    rw [← hb1] at d3
    rw [← hpl1] at d4
    have hplj : pl1 = pl + w.length := by rw [hw0] at k2; simp only [List.length_nil] at k2; omega
    have hax1 : AX b1 c1 g S m d np pl0 pr pj (p + 1) := AX_fx hax d3 d1 y1.1.2.2.2.2 (by omega)
    have e2 : b1.2.1 2 = b.2.1 2 := d3.eqb.1
    obtain ⟨g', r1, r2, r3, r4, r5⟩ := x_closed hax1 d5 (by rw [e2]; exact hfin)
    have r4' : BS b1.2.1 g' pj pr d = BS b.2.1 g pj pr d := r4.trans (BS_fx d3)
    have hwd1 : wd (mEnd c1 (g 0 S)) j kd := ⟨d2.trans hw.wd.1, hw.wd.2.1, by show c1.2.1 1 j = kd; rw [d1.arr 1 (by decide)]; exact hw.wd.2.2.1, (d1.sc 4 (by decide)).trans hw.wd.2.2.2⟩
    have h41 : c1.1 4 = -1 := (d1.sc 4 (by decide)).trans hw.wd.2.2.2
    have wfc1 : WFc c (mEnd c1 (g 0 S)) := d1.wf.trans ⟨fun _ _ => rfl, rfl, rfl, rfl, rfl, rfl⟩
    have o71 : c1.1 7 = 0 := d5.2.2.1.2.1
    have c6 : c1.1 6 = nI d := (d1.sc 6 (by decide)).trans n5
    -- the class writes down what waits
    have cend : ∀ (σ : S9) (F : S9 → Prop), Cs b w σ → (∀ σ', Cs b1 [] σ' → F σ') → wp_X1_end σ F := by
      intro σ F hσ k
      unfold wp_X1_end
      refine s_writeDown y1.1.2.1 y1.1.1 y1.1.2.2.1 (by omega) (by omega) (okW_nar w 0 y2) hσ (fun σ' h' => ?_)
      rw [hw0, ← hb1] at h'
      exact k σ' h'
    have es : ∀ (σ : S9) (Φ : Int32 → S9 → Prop), Cs b w σ → wp_X0_closesExpression x σ (fun r20 σ9 => narrow .boolean (.int r20) = .int r20 ∧ Φ r20 σ9) → wp_X0_takes x σ Φ := fun σ Φ hσ hh =>
      tk σ Φ hσ (s_ends hσ x16 x14.1 x14.2.2 hax.cs (by omega) (fun _ => br_f (by decide) hh) (fun z => absurd ⟨rfl, ep, ex⟩ z))
    have mend : ∀ (l : TL) (Ψ : Int32 → S9 → Prop), l.length < 3850 → MG (mEnd c1 (g 0 S)) l Ψ → bEx b.2.1 g S pj pr d = (14, nI (g 0 S)) :: l → MG c (fr (bEx b.2.1 g S pj pr d) false w 0) Ψ := fun l Ψ hl k e => by
      refine d7 Ψ ?_
      rw [e]
      exact m_ended h41 (by omega) (by omega) k
    by_cases hc : b.2.1 2 S = 63 ∨ b.2.1 2 S = 42
    · -- a block must be opened
      have ees : eS b.2.1 S = 123 := by unfold eS; rw [if_pos hc]
      have ekk : kd = 223 := by rw [ek, ees]; rfl
      have exo : xoS b1.2.1 S = nI S := by unfold xoS; rw [e2, if_pos hc]
      have exc : xcS b1.2.1 S = 1 := by unfold xcS; rw [e2, if_pos hc]
      rw [exo] at r1 r2
      have hrm := hax1.rm
      rw [exc] at hrm
      have hbx : bEx b.2.1 g S pj pr d = (14, nI (g 0 S)) :: (3, 0) :: (if b.2.1 2 S = 63 then (15, nI (g 0 S)) else (17, nI (g 0 S))) :: BS b.2.1 g pj pr d := by
        unfold bEx
        by_cases e6 : b.2.1 2 S = 63
        · rw [if_pos e6, if_pos e6]
        · rw [if_neg e6, if_neg e6, if_pos (hc.resolve_left e6)]
      have hx : x = 123 := ex.trans ees
      have h91 : b1.1 9 = nI S := hax1.cs
      have h61 : b1.1 6 = nI d := (d3.1 6 (by omega)).trans n4
      have cls : ∀ (σ : S9) (Φ : Int32 → S9 → Prop), Cs b w σ → (∀ σ', Cs b1 [] σ' → wp_X0_opensBlock (nI S) 0 σ' (fun r3 σ3 => narrow .boolean (.int r3) = .int r3 ∧ narrow .boolean (.int r3) = .int r3 ∧ Φ r3 σ3)) → wp_X0_takes x σ Φ := by
        intro σ Φ hσ hh
        refine es σ Φ hσ ?_
        unfold wp_X0_closesExpression
        refine cend σ _ hσ (fun σ' h' => br_t hx ?_)
        rw [Cs_1 h' (show (9 : Nat) ≠ 13 by decide), h91]
        exact hh σ' h'
      have ff1 : FF c (mEnd c1 (g 0 S)) := d1.ff.trans (FF_end _ _)
      by_cases edd : d = 20
      · subst edd
        refine Or.inr ⟨b1, [], d3.wf, fun σ Φ hσ k => cls σ Φ hσ (fun σ' h' => s_opens20 h' h61 ⟨rfl, rfl, k σ' h'⟩), ?_⟩
        refine (m_openBad (l := (if b.2.1 2 S = 63 then (15, nI (g 0 S)) else (17, nI (g 0 S))) :: BS b.2.1 g pj pr 20) hwd1 c6 (by omega) (by simp only [List.length_cons]; omega) (Or.inr rfl) ⟨p, by have := hw.p3; omega, ?_⟩).back2 ff1 ?_ (fun Ψ k => mend _ Ψ (by simp only [List.length_cons]; omega) k hbx)
        · show c1.2.1 3 j = _
          rw [d1.arr 3 (by decide)]; exact hw.pl
        · exact wfc1.2.2.2.2.1
      · have hop := w_open (v15 := 0) (j := j) (s := S) r1 r3 r2 (by rw [if_pos rfl]; exact hrm) o71 (by omega) hax1.ls (by omega) (Or.inl ⟨rfl, by rw [e2]; exact hc, by rw [r5.2.2.2.2.2.2.1]; exact hax1.g6, hax1.b7, hax1.b6, by rw [r5.1]; exact hax1.g0⟩)
        obtain ⟨o1, o2⟩ := hop
        rw [if_pos rfl, r4', r5.1, e2] at o2
        refine Or.inl ⟨cOpen b1 d (nI S) 0, mOpen (mEnd c1 (g 0 S)) d j, [], _, Or.inl ⟨rfl, g', S + 1, m, d + 1, np, pl1, pr, pj, o1, by omega, o2.symm⟩, d3.wf.trans (wfb_open _ _ _ _), wfc1.trans (wfc_open _ _ _), rfl, h41, fun σ Φ hσ k => cls σ Φ hσ (fun σ' h' => s_opens h' h61 (by omega) rfl (fun σ2 h2 => ⟨rfl, rfl, k σ2 h2⟩)), fun Ψ k => mend _ Ψ (by simp only [List.length_cons]; omega) (m_open (by rw [← ekk]; exact hwd1) c6 (by omega) (by simp only [List.length_cons]; omega) k) hbx⟩
    · -- a semicolon
      have ees : eS b.2.1 S = 59 := by unfold eS; rw [if_neg hc]
      have ekk : kd = 159 := by rw [ek, ees]; rfl
      have exo : xoS b1.2.1 S = -1 := by unfold xoS; rw [e2, if_neg hc]
      have exc : xcS b1.2.1 S = 0 := by unfold xcS; rw [e2, if_neg hc]
      rw [exo] at r1 r2
      have hrm := hax1.rm
      rw [exc] at hrm
      have hbx : bEx b.2.1 g S pj pr d = (14, nI (g 0 S)) :: (4, 59) :: BS b.2.1 g pj pr d := by
        unfold bEx
        rw [if_neg (fun z => hc (Or.inl z)), if_neg (fun z => hc (Or.inr z))]
      have hx : ¬ x = 123 := by rw [ex, ees]; decide
      have hpn := PN0_last r2 (by omega) (by omega) hax1.ls (by rw [r5.2.1]; exact hax1.g1)
      have hR : R0 b1 (mEnd c1 (g 0 S)) g' (S + 1) m d np pl1 pr pj (p + 1) := ⟨r1, r3, hpn, r2, hrm, o71⟩
      refine Or.inl ⟨sF b1 7 0, sF (mEnd c1 (g 0 S)) 3 (nI (j + 1)), [], BS b.2.1 g pj pr d, Or.inl ⟨rfl, g', S + 1, m, d, np, pl1, pr, pj, R0_3 hR (Nat.le_refl _), by omega, ?_⟩, WFb_7 d3.wf, wfc1.trans (FXc_sF (pl := 0) (Or.inl rfl)).wf, rfl, h41, fun σ Φ hσ k => es σ Φ hσ ?_, fun Ψ k => mend _ Ψ (by simp only [List.length_cons]; omega) (m_sign rfl (by have q := hwd1; rw [ekk] at q; exact q) (by omega) k) hbx⟩
      · show _ = BS b1.2.1 g' pj pr d
        rw [r4']
      · unfold wp_X0_closesExpression
        refine cend σ _ hσ (fun σ' h' => br_f hx ?_)
        unfold wp_X0_awaits
        exact nm_e ⟨rfl, rfl, k _ (Cs_sF h' (by decide) _)⟩
  · -- one more word of it
    have go : ∀ (σ : S9) (Φ : Int32 → S9 → Prop), Cs b w σ → wp_X1_takes x σ (fun r19 σ8 => narrow .boolean (.int r19) = .int r19 ∧ Φ r19 σ8) → wp_X0_takes x σ Φ := fun σ Φ hσ hh =>
      tk σ Φ hσ (s_ends hσ x16 x14.1 x14.2.2 hax.cs (by omega) (fun z => absurd z hend) (fun _ => br_t rfl hh))
    have key : xAcc b c w (xTh (bEx b.2.1 g S pj pr d) false w due) x S pl0 pl hb j false (bEx b.2.1 g S pj pr d) ∨ xRej b c w (xTh (bEx b.2.1 g S pj pr d) false w due) x S j := by
      cases due with
      | true => exact x_due hbase hxr hw.wk rfl hw.wd hw.v (by omega)
      | false =>
        refine x_op hbase hxr (fun z => absurd z (by decide)) hw.wk hw.wd (by omega) (fun z c1 hw1 hc1 => ?_)
        have hne : ¬ kd = 100 + eS b.2.1 S := fun y => hend ⟨rfl, z, hes.mpr y⟩
        have c6 : c1.1 6 = nI d := (hc1.sc 6 (by decide)).trans n5
        have hwd1 : wd (mEnd c1 (g 0 S)) j kd := hw1
        have hp3 : ∃ p : Nat, p < 3001 ∧ (mEnd c1 (g 0 S)).2.1 3 j = nI p := ⟨p, by have := hw.p3; omega, by show c1.2.1 3 j = _; rw [hc1.arr 3 (by decide)]; exact hw.pl⟩
        unfold bEx
        unfold eS at hne
        by_cases e6 : b.2.1 2 S = 63
        · rw [if_pos e6]
          rw [if_pos (Or.inl e6)] at hne
          exact (m_openBad (l := (15, nI (g 0 S)) :: BS b.2.1 g pj pr d) hwd1 c6 n6 (by simp only [List.length_cons]; omega) (Or.inl hne) hp3).back2 (FF_end _ _) rfl (fun Ψ k => m_ended hw1.2.2.2 (by omega) (by simp only [List.length_cons]; omega) k)
        · rw [if_neg e6]
          by_cases e7 : b.2.1 2 S = 42
          · rw [if_pos e7]
            rw [if_pos (Or.inr e7)] at hne
            exact (m_openBad (l := (17, nI (g 0 S)) :: BS b.2.1 g pj pr d) hwd1 c6 n6 (by simp only [List.length_cons]; omega) (Or.inl hne) hp3).back2 (FF_end _ _) rfl (fun Ψ k => m_ended hw1.2.2.2 (by omega) (by simp only [List.length_cons]; omega) k)
          · rw [if_neg e7]
            rw [if_neg (fun q => q.elim e6 e7)] at hne
            exact (m_signBad (l := BS b.2.1 g pj pr d) rfl hwd1 hne (by omega)).back2 (FF_end _ _) rfl (fun Ψ k => m_ended hw1.2.2.2 (by omega) (by simp only [List.length_cons]; omega) k)
    rcases key with ⟨b1, c1, w1, pl1, h2, f1, due1, r1, r2, r3, r4, r5, r6, r7, r8⟩ | ⟨b1, w1, r1, r2, r3⟩
    · have hax1 : AX b1 c1 g S m d np pl0 pr pj (p + 1) := AX_fx hax r4 r5 hxr.1.1.1.2.2.2.2 (by omega)
      have e2 : b1.2.1 2 = b.2.1 2 := r4.eqb.1
      obtain ⟨eex, eeq⟩ := wpEx_eq (g := g) (pj := pj) (pr := pr) (d := d) r4
      refine Or.inl ⟨b1, c1, w1, xTh (bEx b.2.1 g S pj pr d) false w1 due1, Or.inr (Or.inr (Or.inr (Or.inr (Or.inl ⟨(r4.1 7 (by omega)).trans h7, g, S, m, d, np, pl0, pl1, pr, pj, h2, f1, hb, due1, hax1, r1, by rw [e2]; exact hfin, by rw [e2]; exact hk65, by omega, by rw [eex]⟩)))), r4.wf, r5.wf, r6, (r5.sc 4 (by decide)).trans hw.wd.2.2.2, fun σ Φ hσ k => go σ Φ hσ (r7 σ _ hσ (fun σ' h' => ⟨rfl, k σ' h'⟩)), r8⟩
    · exact Or.inr ⟨b1, w1, r1.wf, fun σ Φ hσ k => go σ Φ hσ (r2 σ _ hσ (fun σ' h' => ⟨rfl, k σ' h'⟩)), r3⟩
/-- one word -/
theorem w_word {b c : S9} {w th : TL} {j p : Nat} {x kd v : Int32} (h : QQ b c w th j p) (hw : WH b c j p x kd v) (hx0 : ¬ x = 0) : wAcc (wp_X0_takes x) b c w th j p ∨ wRej (wp_X0_takes x) b c w th j := by
  rcases h with ⟨h7, h⟩ | ⟨h7, h⟩ | ⟨h7, h⟩ | ⟨h7, h⟩ | ⟨h7, h⟩ | ⟨h7, h⟩ | ⟨h7, h⟩ | ⟨h7, h⟩
  · exact w_state00 h h7 hw hx0
  · exact w_state1 h h7 hw hx0
  · exact w_state2 h h7 hw
  · exact w_state3 h h7 hw
  · exact w_state4 h h7 hw
  · exact w_state5 h h7 hw
  · exact w_state6 h h7 hw
  · exact w_state7 h h7 hw
