/-! ===== where a factor must come: all words ===== -/
theorem c_fac {b σ : S9} {w : List (Int32 × Int32)} {f : Nat} {x : Int32} {Φ : Int32 → S9 → Prop} (h : Cs b w σ) (h16 : b.1 16 = 1) (h15 : b.1 15 = nI f) (hf : f < 60)
    (k : ∀ σ1, Cs (sF b 15 (nI (f + 1))) w σ1 → (x = 35 → wp_X1_writesOperand 35 0 σ1 (fun r3 σ2 => narrow .boolean (.int r3) = .int r3 ∧ wp_X1_takes_b20 Φ r3 σ2)) ∧ (¬ x = 35 → (x = 40 → wp_X1_opensParenthesis σ1 (fun r5 σ3 => narrow .boolean (.int r5) = .int r5 ∧ wp_X1_takes_b20 Φ r5 σ3)) ∧ (¬ x = 40 → (x = 45 → wp_X1_holds 126 4 σ1 (fun r7 σ4 => narrow .boolean (.int r7) = .int r7 ∧ wp_X1_takes_b20 Φ r7 σ4)) ∧ (¬ x = 45 → (x = 48 → wp_X9_isTooGreat σ1 (fun r9 σ5 => (r9 = 0 → wp_X1_writesOperand 48 (σ5.2.2).toInt32 σ5 (fun r11 σ6 => (r11 = 0 → wp_X1_takes_b20 Φ 0 σ6) ∧ (¬ r11 = 0 → wp_X1_takes_b20 Φ 1 σ6))) ∧ (¬ r9 = 0 → wp_X1_takes_b20 Φ 0 σ5))) ∧ (¬ x = 48 → (x = 64 → wp_X1_holds 64 4 σ1 (fun r14 σ7 => narrow .boolean (.int r14) = .int r14 ∧ wp_X1_takes_b20 Φ r14 σ7)) ∧ (¬ x = 64 → wp_X10_isName x σ1 (fun r15 σ8 => (r15 = 0 → wp_X1_takes_b20 Φ 0 σ8) ∧ (¬ r15 = 0 → wp_X1_writesOperand 97 (x - 97) σ8 (fun r17 σ9 => (r17 = 0 → wp_X1_takes_b20 Φ 0 σ9) ∧ (¬ r17 = 0 → wp_X1_takes_b20 Φ 1 σ9)))))))))) : wp_X1_takes x σ Φ := by
  unfold wp_X1_takes
  rw [Cs_1 h (show (16 : Nat) ≠ 13 by decide), h16]
  refine br_f (by decide) ?_
  unfold wp_X1_takesFactor
  rw [Cs_1 h (show (15 : Nat) ≠ 13 by decide), h15]
  refine pk_eq f 60 (fun e => absurd e (by omega)) (fun _ => nm_e ?_)
  rw [nI_1]
  exact k _ (Cs_sF h (by decide) _)
theorem m_fac {c : S9} {l : List (Int32 × Int32)} {f j : Nat} {kd : Int32} {Ψ : Int32 → S9 → Prop} {c' : S9} {l' : List (Int32 × Int32)} (hw : wd c j kd) (hl : l.length < 3900) (h9 : c.1 9 = nI f) (hf : f < 60)
    (k : ∀ (τ1 : S9) (K : S9 → Prop), St (sF c 9 (nI (f + 1))) l τ1 → (∀ τ', St c' l' τ' → K τ') → (kd = 1 → wp_X11_factor_b50 K kd τ1) ∧ (¬ kd = 1 → (kd = 3 → wp_X11_factor_b50 K kd τ1) ∧ (¬ kd = 3 → (kd = 135 → wp_X11_put 35 0 τ1 (fun σ8 => ∀ σ9 : S9, σ9 = sF σ8 3 (σ8.1 3 + 1) → K σ9)) ∧ (¬ kd = 135 → (kd = 145 → wp_X11_factor_b127 K kd τ1) ∧ (¬ kd = 145 → (kd = 164 → wp_X11_factor_b127 K kd τ1) ∧ (¬ kd = 164 → (kd = 140 → (20 ≤ τ1.1 7 → wp_X11_fail (τ1.1 3) τ1 (fun σ3 => K σ3)) ∧ (¬ 20 ≤ τ1.1 7 → ∀ σ4 : S9, σ4 = sF τ1 7 (τ1.1 7 + 1) → ∀ σ5 : S9, σ5 = sF σ4 3 (σ4.1 3 + 1) → wp_X11_come 12 0 σ5 (fun σ6 => wp_X11_come 5 0 σ6 (fun σ7 => K σ7)))) ∧ (¬ kd = 140 → wp_X11_fail (τ1.1 3) τ1 (fun σ2 => K σ2)))))))) (kk : MG c' l' Ψ) : MG c ((11, 0) :: l) Ψ := by
  obtain ⟨w1, w2, w3, w4⟩ := hw
  refine mg_in w4 (by omega) (Or.inr ⟨by decide, by decide⟩) (fun τ K h kc => dI_factor ?_) kk
  unfold wp_X11_factor
  rw [St_1 h (show (3 : Nat) ≠ 5 by decide), St_1 h (show (9 : Nat) ≠ 5 by decide), St_2 h (show (1 : Nat) ≠ 4 by decide) (by decide), w1, h9, nI_clamp (by omega), w3]
  refine ⟨pk_in j 3002 (by omega), nm_e (nm_e ?_)⟩
  have e : (sF τ 9 (nI f + 1)).1 9 = nI (f + 1) := by show nI f + 1 = _; exact nI_1 f
  rw [e]
  have h' : St (sF c 9 (nI (f + 1))) l (sF τ 9 (nI f + 1)) := by rw [nI_1]; exact St_sF h (by decide) _
  exact pk_le (f + 1) 60 (fun _ => k _ K h' kc) (fun z => absurd z (by omega))
theorem m_failAt {c : S9} {l : List (Int32 × Int32)} {j : Nat} {τ : S9} {K : S9 → Prop} (h : St c l τ) (h3 : c.1 3 = nI j) (hj : j < 3001) (h4 : c.1 4 = -1) (k : ∀ τ', St (sF c 4 (c.2.1 3 j)) l τ' → K τ') : wp_X11_fail (τ.1 3) τ (fun σ3 => K σ3) := by
  rw [St_1 h (show (3 : Nat) ≠ 5 by decide), h3]
  exact s_fail h h4 (by omega) k
theorem s_takes0 {σ : S9} {Φ : Int32 → S9 → Prop} (k : Φ 0 σ) : wp_X1_takes_b20 Φ 0 σ := by
  unfold wp_X1_takes_b20
  exact br_t rfl ⟨rfl, k⟩
theorem s_takes1 {σ : S9} {Φ : Int32 → S9 → Prop} (h : σ.1 16 = 1) (k : Φ 1 σ) : wp_X1_takes_b20 Φ 1 σ := by
  unfold wp_X1_takes_b20
  rw [h]
  exact br_f (by decide) (br_f (by decide) ⟨rfl, k⟩)
theorem s_isName {σ : S9} {Φ : Int32 → S9 → Prop} {x : Int32} (h1 : (¬ x < 97 ∧ ¬ 122 < x) → Φ 1 σ) (h0 : ¬ (¬ x < 97 ∧ ¬ 122 < x) → Φ 0 σ) : wp_X10_isName x σ Φ :=
  br_c (fun e => h0 (fun z => z.1 e)) (fun e => br_c (fun e2 => h0 (fun z => z.2 e2)) (fun e2 => h1 ⟨e, e2⟩))
theorem addCode_mono {s v : Int32} {σ : S9} {F F' : S9 → Prop} (m : ∀ σ, F σ → F' σ) (h : wp_X6_addCode s v σ F) : wp_X6_addCode s v σ F' := by
  unfold wp_X6_addCode at h ⊢
  intro x1 e1
  obtain ⟨h1, h2⟩ := h x1 e1
  refine ⟨fun z => m _ (h1 z), fun z => ?_⟩
  obtain ⟨a1, h3, h4⟩ := h2 z
  refine ⟨a1, fun z => m _ (h3 z), fun z => ?_⟩
  obtain ⟨a2, a3, h5⟩ := h4 z
  refine ⟨a2, a3, fun σ1 e => ?_⟩
  obtain ⟨a4, a5, h6⟩ := h5 σ1 e
  refine ⟨a4, a5, fun σ2 e => ?_⟩
  obtain ⟨a6, a7, h7⟩ := h6 σ2 e
  exact ⟨a6, a7, fun σ3 e => m _ (h7 σ3 e)⟩
theorem wOp_mono {s v : Int32} {σ : S9} {F F' : Int32 → S9 → Prop} (m : ∀ σ, F 1 σ → F' 1 σ) (h : wp_X1_writesOperand s v σ F) : wp_X1_writesOperand s v σ F' := by
  unfold wp_X1_writesOperand at h ⊢
  exact addCode_mono (fun σ h σ2 e => m _ (h σ2 e)) h
theorem x_due {b c : S9} {S pl0 pl h f hb j : Nat} {fo : Bool} {w base : List (Int32 × Int32)} {x kd v : Int32} {num : Int64} (hbl : base.length ≤ 100) (hX : XR b c S pl0 pl h f w true fo hb) (hk : WK x kd v num) (hnum : b.2.2 = num) (hwd : wd c j kd) (hv : c.2.1 2 j = v) (hroom : pl + w.length + 1 ≤ 3000) :
    xAcc b c w (xTh base fo w true) x S pl0 pl hb j fo base ∨ xRej b c w (xTh base fo w true) x S j := by
  have hX0 := hX
  obtain ⟨⟨x1, x2, x3, x4, x5, x6, x7, x8, x9⟩, -, x16⟩ := hX0
  simp only [if_true] at x5 x6 x16
  have hlen := fr_len base fo w 0 (by omega)
  have w1 := hwd.1
  have w2 := hwd.2.1
  have w4 := hwd.2.2.2
  have hth : xTh base fo w true = (11, 0) :: fr base fo w 0 := rfl
  rw [hth]
  by_cases hf : f = 60
  · -- the 61st factor
    refine Or.inr ⟨b, w, FXb.rf _ _, fun σ Φ hσ k => ?_, sF c 9 (nI 61), fr base fo w 0, (FXc_sF (pl := 0) (Or.inr (Or.inr rfl))).ff, by omega, fun Ψ kk => ?_⟩
    · unfold wp_X1_takes
      rw [Cs_1 hσ (show (16 : Nat) ≠ 13 by decide), x16]
      refine br_f (by decide) ?_
      unfold wp_X1_takesFactor
      rw [Cs_1 hσ (show (15 : Nat) ≠ 13 by decide), x4.1, hf]
      exact br_t rfl (s_takes0 (k σ hσ))
    · refine mg_in w4 (by omega) (Or.inr ⟨by decide, by decide⟩) (fun τ K hτ kc => dI_factor ?_) kk
      unfold wp_X11_factor
      rw [St_1 hτ (show (3 : Nat) ≠ 5 by decide), St_1 hτ (show (9 : Nat) ≠ 5 by decide), w1, x4.2.1, hf]
      refine ⟨pk_in j 3002 (by omega), nm_e (nm_e ?_)⟩
      refine br_f (show ¬ (nI 60 + 1 : Int32) ≤ 60 by decide) ?_
      exact m_failAt (St_sF hτ (show (9 : Nat) ≠ 5 by decide) (nI 60 + 1)) w1 (by omega) w4 kc
  have hf60 : f < 60 := by omega
  -- what a reject comes to
  have rej : (∀ (σ1 : S9) (Φ : Int32 → S9 → Prop), Cs (sF b 15 (nI (f + 1))) w σ1 → Φ 0 σ1 → (x = 35 → wp_X1_writesOperand 35 0 σ1 (fun r3 σ2 => narrow .boolean (.int r3) = .int r3 ∧ wp_X1_takes_b20 Φ r3 σ2)) ∧ (¬ x = 35 → (x = 40 → wp_X1_opensParenthesis σ1 (fun r5 σ3 => narrow .boolean (.int r5) = .int r5 ∧ wp_X1_takes_b20 Φ r5 σ3)) ∧ (¬ x = 40 → (x = 45 → wp_X1_holds 126 4 σ1 (fun r7 σ4 => narrow .boolean (.int r7) = .int r7 ∧ wp_X1_takes_b20 Φ r7 σ4)) ∧ (¬ x = 45 → (x = 48 → wp_X9_isTooGreat σ1 (fun r9 σ5 => (r9 = 0 → wp_X1_writesOperand 48 (σ5.2.2).toInt32 σ5 (fun r11 σ6 => (r11 = 0 → wp_X1_takes_b20 Φ 0 σ6) ∧ (¬ r11 = 0 → wp_X1_takes_b20 Φ 1 σ6))) ∧ (¬ r9 = 0 → wp_X1_takes_b20 Φ 0 σ5))) ∧ (¬ x = 48 → (x = 64 → wp_X1_holds 64 4 σ1 (fun r14 σ7 => narrow .boolean (.int r14) = .int r14 ∧ wp_X1_takes_b20 Φ r14 σ7)) ∧ (¬ x = 64 → wp_X10_isName x σ1 (fun r15 σ8 => (r15 = 0 → wp_X1_takes_b20 Φ 0 σ8) ∧ (¬ r15 = 0 → wp_X1_writesOperand 97 (x - 97) σ8 (fun r17 σ9 => (r17 = 0 → wp_X1_takes_b20 Φ 0 σ9) ∧ (¬ r17 = 0 → wp_X1_takes_b20 Φ 1 σ9)))))))))) →
      (∀ (τ1 : S9) (K : S9 → Prop), St (sF c 9 (nI (f + 1))) (fr base fo w 0) τ1 → wp_X11_fail (τ1.1 3) τ1 (fun σ2 => K σ2) → (kd = 1 → wp_X11_factor_b50 K kd τ1) ∧ (¬ kd = 1 → (kd = 3 → wp_X11_factor_b50 K kd τ1) ∧ (¬ kd = 3 → (kd = 135 → wp_X11_put 35 0 τ1 (fun σ8 => ∀ σ9 : S9, σ9 = sF σ8 3 (σ8.1 3 + 1) → K σ9)) ∧ (¬ kd = 135 → (kd = 145 → wp_X11_factor_b127 K kd τ1) ∧ (¬ kd = 145 → (kd = 164 → wp_X11_factor_b127 K kd τ1) ∧ (¬ kd = 164 → (kd = 140 → (20 ≤ τ1.1 7 → wp_X11_fail (τ1.1 3) τ1 (fun σ3 => K σ3)) ∧ (¬ 20 ≤ τ1.1 7 → ∀ σ4 : S9, σ4 = sF τ1 7 (τ1.1 7 + 1) → ∀ σ5 : S9, σ5 = sF σ4 3 (σ4.1 3 + 1) → wp_X11_come 12 0 σ5 (fun σ6 => wp_X11_come 5 0 σ6 (fun σ7 => K σ7)))) ∧ (¬ kd = 140 → wp_X11_fail (τ1.1 3) τ1 (fun σ2 => K σ2)))))))) →
      xRej b c w ((11, 0) :: fr base fo w 0) x S j := by
    intro hc hm
    refine ⟨sF b 15 (nI (f + 1)), w, FXb_sF (by omega), fun σ Φ hσ k => c_fac hσ x16 x4.1 hf60 (fun σ1 h1 => hc σ1 Φ h1 (k σ1 h1)), sF c 9 (nI (f + 1)), fr base fo w 0, (FXc_sF (pl := 0) (Or.inr (Or.inr rfl))).ff, by omega, fun Ψ kk => ?_⟩
    exact m_fac (kd := kd) hwd (by omega) x4.2.1 hf60 (fun τ1 K h1 kc => hm τ1 K h1 (m_failAt h1 w1 (by omega) w4 kc)) kk
  -- an operand
  have atom : ∀ s vv : Int32, (s = 48 ∨ s = 97 ∨ s = 35) → (s = 97 → ∃ p : Nat, p < 26 ∧ vv = nI p) → (∀ (σ1 : S9) (Φ : Int32 → S9 → Prop), Cs (sF b 15 (nI (f + 1))) w σ1 → wp_X1_writesOperand s vv σ1 (fun r σ6 => wp_X1_takes_b20 Φ r σ6) → (x = 35 → wp_X1_writesOperand 35 0 σ1 (fun r3 σ2 => narrow .boolean (.int r3) = .int r3 ∧ wp_X1_takes_b20 Φ r3 σ2)) ∧ (¬ x = 35 → (x = 40 → wp_X1_opensParenthesis σ1 (fun r5 σ3 => narrow .boolean (.int r5) = .int r5 ∧ wp_X1_takes_b20 Φ r5 σ3)) ∧ (¬ x = 40 → (x = 45 → wp_X1_holds 126 4 σ1 (fun r7 σ4 => narrow .boolean (.int r7) = .int r7 ∧ wp_X1_takes_b20 Φ r7 σ4)) ∧ (¬ x = 45 → (x = 48 → wp_X9_isTooGreat σ1 (fun r9 σ5 => (r9 = 0 → wp_X1_writesOperand 48 (σ5.2.2).toInt32 σ5 (fun r11 σ6 => (r11 = 0 → wp_X1_takes_b20 Φ 0 σ6) ∧ (¬ r11 = 0 → wp_X1_takes_b20 Φ 1 σ6))) ∧ (¬ r9 = 0 → wp_X1_takes_b20 Φ 0 σ5))) ∧ (¬ x = 48 → (x = 64 → wp_X1_holds 64 4 σ1 (fun r14 σ7 => narrow .boolean (.int r14) = .int r14 ∧ wp_X1_takes_b20 Φ r14 σ7)) ∧ (¬ x = 64 → wp_X10_isName x σ1 (fun r15 σ8 => (r15 = 0 → wp_X1_takes_b20 Φ 0 σ8) ∧ (¬ r15 = 0 → wp_X1_writesOperand 97 (x - 97) σ8 (fun r17 σ9 => (r17 = 0 → wp_X1_takes_b20 Φ 0 σ9) ∧ (¬ r17 = 0 → wp_X1_takes_b20 Φ 1 σ9)))))))))) →
      (∀ (τ1 : S9) (K : S9 → Prop), St (sF c 9 (nI (f + 1))) (fr base fo w 0) τ1 → wp_X11_put (mk s) vv τ1 (fun σ8 => ∀ σ9 : S9, σ9 = sF σ8 3 (σ8.1 3 + 1) → K σ9) → (kd = 1 → wp_X11_factor_b50 K kd τ1) ∧ (¬ kd = 1 → (kd = 3 → wp_X11_factor_b50 K kd τ1) ∧ (¬ kd = 3 → (kd = 135 → wp_X11_put 35 0 τ1 (fun σ8 => ∀ σ9 : S9, σ9 = sF σ8 3 (σ8.1 3 + 1) → K σ9)) ∧ (¬ kd = 135 → (kd = 145 → wp_X11_factor_b127 K kd τ1) ∧ (¬ kd = 145 → (kd = 164 → wp_X11_factor_b127 K kd τ1) ∧ (¬ kd = 164 → (kd = 140 → (20 ≤ τ1.1 7 → wp_X11_fail (τ1.1 3) τ1 (fun σ3 => K σ3)) ∧ (¬ 20 ≤ τ1.1 7 → ∀ σ4 : S9, σ4 = sF τ1 7 (τ1.1 7 + 1) → ∀ σ5 : S9, σ5 = sF σ4 3 (σ4.1 3 + 1) → wp_X11_come 12 0 σ5 (fun σ6 => wp_X11_come 5 0 σ6 (fun σ7 => K σ7)))) ∧ (¬ kd = 140 → wp_X11_fail (τ1.1 3) τ1 (fun σ2 => K σ2)))))))) →
      xAcc b c w ((11, 0) :: fr base fo w 0) x S pl0 pl hb j fo base := by
    intro s vv hs hvv hc hm
    obtain ⟨b', c', w', pl', h', g1, g2, g3, g4, g5, g6, g7, g8⟩ := x_atom (v := vv) (j := j) hbl hX hf60 hroom w1 w4 hs hvv
    refine ⟨b', c', w', pl', h', f + 1, false, g1, g2, g3, g4, g5, g6, fun σ Φ hσ k => c_fac hσ x16 x4.1 hf60 (fun σ1 h1 => hc σ1 Φ h1 (g7 σ1 Φ h1 k)), fun Ψ kk => ?_⟩
    obtain ⟨c1, q1, q2⟩ := g8 Ψ kk
    exact m_fac (kd := kd) hwd (by omega) x4.2.1 hf60 (fun τ1 K h1 kc => hm τ1 K h1 (q2 _ τ1 K h1 kc)) q1
  -- a prefix
  have pre : ∀ s m : Int32, (s = 126 ∨ s = 64) → m = mk s → (∀ (σ1 : S9) (Φ : Int32 → S9 → Prop), Cs (sF b 15 (nI (f + 1))) w σ1 → wp_X1_holds s 4 σ1 (fun r7 σ4 => narrow .boolean (.int r7) = .int r7 ∧ wp_X1_takes_b20 Φ r7 σ4) → (x = 35 → wp_X1_writesOperand 35 0 σ1 (fun r3 σ2 => narrow .boolean (.int r3) = .int r3 ∧ wp_X1_takes_b20 Φ r3 σ2)) ∧ (¬ x = 35 → (x = 40 → wp_X1_opensParenthesis σ1 (fun r5 σ3 => narrow .boolean (.int r5) = .int r5 ∧ wp_X1_takes_b20 Φ r5 σ3)) ∧ (¬ x = 40 → (x = 45 → wp_X1_holds 126 4 σ1 (fun r7 σ4 => narrow .boolean (.int r7) = .int r7 ∧ wp_X1_takes_b20 Φ r7 σ4)) ∧ (¬ x = 45 → (x = 48 → wp_X9_isTooGreat σ1 (fun r9 σ5 => (r9 = 0 → wp_X1_writesOperand 48 (σ5.2.2).toInt32 σ5 (fun r11 σ6 => (r11 = 0 → wp_X1_takes_b20 Φ 0 σ6) ∧ (¬ r11 = 0 → wp_X1_takes_b20 Φ 1 σ6))) ∧ (¬ r9 = 0 → wp_X1_takes_b20 Φ 0 σ5))) ∧ (¬ x = 48 → (x = 64 → wp_X1_holds 64 4 σ1 (fun r14 σ7 => narrow .boolean (.int r14) = .int r14 ∧ wp_X1_takes_b20 Φ r14 σ7)) ∧ (¬ x = 64 → wp_X10_isName x σ1 (fun r15 σ8 => (r15 = 0 → wp_X1_takes_b20 Φ 0 σ8) ∧ (¬ r15 = 0 → wp_X1_writesOperand 97 (x - 97) σ8 (fun r17 σ9 => (r17 = 0 → wp_X1_takes_b20 Φ 0 σ9) ∧ (¬ r17 = 0 → wp_X1_takes_b20 Φ 1 σ9)))))))))) →
      (∀ (τ1 : S9) (K : S9 → Prop), wp_X11_come 13 m (sF τ1 3 (τ1.1 3 + 1)) (fun σ4 => wp_X11_come 11 0 σ4 (fun σ5 => K σ5)) → (kd = 1 → wp_X11_factor_b50 K kd τ1) ∧ (¬ kd = 1 → (kd = 3 → wp_X11_factor_b50 K kd τ1) ∧ (¬ kd = 3 → (kd = 135 → wp_X11_put 35 0 τ1 (fun σ8 => ∀ σ9 : S9, σ9 = sF σ8 3 (σ8.1 3 + 1) → K σ9)) ∧ (¬ kd = 135 → (kd = 145 → wp_X11_factor_b127 K kd τ1) ∧ (¬ kd = 145 → (kd = 164 → wp_X11_factor_b127 K kd τ1) ∧ (¬ kd = 164 → (kd = 140 → (20 ≤ τ1.1 7 → wp_X11_fail (τ1.1 3) τ1 (fun σ3 => K σ3)) ∧ (¬ 20 ≤ τ1.1 7 → ∀ σ4 : S9, σ4 = sF τ1 7 (τ1.1 7 + 1) → ∀ σ5 : S9, σ5 = sF σ4 3 (σ4.1 3 + 1) → wp_X11_come 12 0 σ5 (fun σ6 => wp_X11_come 5 0 σ6 (fun σ7 => K σ7)))) ∧ (¬ kd = 140 → wp_X11_fail (τ1.1 3) τ1 (fun σ2 => K σ2)))))))) →
      xAcc b c w ((11, 0) :: fr base fo w 0) x S pl0 pl hb j fo base := by
    intro s m hs hms hc hm
    refine ⟨sF b 15 (nI (f + 1)), sF (sF c 9 (nI (f + 1))) 3 (nI (j + 1)), (s, 4) :: w, pl, h, f + 1, true, ⟨⟨x1, ?_, ?_, ⟨rfl, rfl, by omega⟩, ?_, ?_, by omega, ?_, ?_⟩, fun z => absurd z (by decide), ?_⟩, Nat.le_refl _, ?_, FXb_sF (by omega), ?_, rfl, fun σ Φ hσ k => c_fac hσ x16 x4.1 hf60 (fun σ1 h1 => hc σ1 Φ h1 ?_), fun Ψ kk => ?_⟩
    · exact Or.inl ⟨rfl, hs, rfl, x2⟩
    · rw [pars_pos (by show ¬ (4 : Int32) = 0; decide)]; exact x3
    · simp only [List.length_cons, if_true]; omega
    · rw [bins_zero (Or.inr rfl)]; simp only [if_true]; omega
    · simp only [List.length_cons]; omega
    · simp only [List.length_cons]; omega
    · simp only [if_true]; exact x16
    · simp only [List.length_cons]; omega
    · exact (FXc_sF (pl := pl) (Or.inr (Or.inr rfl))).trans (FXc_sF (pl := pl) (Or.inl rfl)) (Nat.le_refl _)
    · refine s_holds h1 (by omega) (by rcases hs with rfl | rfl <;> rfl) (fun σ2 h2 => ⟨rfl, s_takes1 ?_ (k σ2 h2)⟩)
      rw [Cs_1 h2 (show (16 : Nat) ≠ 13 by decide)]; exact x16
    · have hk2 : MG (sF (sF c 9 (nI (f + 1))) 3 (nI (j + 1))) ((11, 0) :: (13, m) :: fr base fo w 0) Ψ := by
        have : xTh base fo ((s, 4) :: w) true = (11, 0) :: (13, m) :: fr base fo w 0 := by
          show (11, 0) :: fr base fo ((s, 4) :: w) 0 = _
          rw [fr_c0, if_pos rfl, hms]
        rw [this] at kk; exact kk
      refine m_fac (kd := kd) hwd (by omega) x4.2.1 hf60 (fun τ1 K h1 kc => hm τ1 K ?_) hk2
      rw [St_1 h1 (show (3 : Nat) ≠ 5 by decide)]
      show wp_X11_come 13 m (sF τ1 3 (c.1 3 + 1)) _
      rw [w1, nI_1]
      exact s_come (St_sF h1 (by decide) _) (by omega) (fun τ2 h2 => s_come h2 (by simp only [List.length_cons]; omega) kc)
  by_cases e35 : x = 35
  · have ek : kd = 135 := (wk_sg hk 35 (by unfold isSg; omega)).mpr e35
    refine Or.inl (atom 35 0 (Or.inr (Or.inr rfl)) (fun z => absurd z (by decide)) (fun σ1 Φ h1 k => br_t e35 (wOp_mono (fun σ q => ⟨rfl, q⟩) k)) (fun τ1 K h1 k => ?_))
    rw [ek]; exact br_f (by decide) (br_f (by decide) (br_t rfl k))
  by_cases e40 : x = 40
  · have ek : kd = 140 := (wk_sg hk 40 (by unfold isSg; omega)).mpr e40
    by_cases h20 : pars w = 20
    · refine Or.inr (rej (fun σ1 Φ h1 k => br_f e35 (br_t e40 ?_)) (fun τ1 K h1 k => ?_))
      · unfold wp_X1_opensParenthesis
        have e14 : σ1.1 14 = 20 := by
          rw [Cs_1 h1 (show (14 : Nat) ≠ 13 by decide)]
          exact x3.1.trans (by rw [h20]; rfl)
        exact br_t e14 ⟨rfl, s_takes0 k⟩
      · rw [ek]
        refine br_f (by decide) (br_f (by decide) (br_f (by decide) (br_f (by decide) (br_f (by decide) (br_t rfl (br_t ?_ k))))))
        rw [St_1 h1 (show (7 : Nat) ≠ 5 by decide)]
        show 20 ≤ c.1 7
        rw [x3.2.1, h20]; decide
    · refine Or.inl ⟨sF (sF b 15 (nI (f + 1))) 14 (nI (pars w + 1)), sF (sF (sF c 9 (nI (f + 1))) 7 (nI (pars w + 1))) 3 (nI (j + 1)), (40, 0) :: w, pl, h, f + 1, true, ⟨⟨x1, ?_, ?_, ⟨rfl, rfl, by omega⟩, ?_, ?_, by omega, ?_, ?_⟩, fun z => absurd z (by decide), ?_⟩, Nat.le_refl _, ?_, ?_, ?_, rfl, fun σ Φ hσ k => c_fac hσ x16 x4.1 hf60 (fun σ1 h1 => br_f e35 (br_t e40 ?_)), fun Ψ kk => ?_⟩
      · exact Or.inr (Or.inr (Or.inr (Or.inr ⟨rfl, rfl, x2⟩)))
      · have : pars ((40, 0) :: w) = pars w + 1 := by
          show (if (0 : Int32) = 0 then 1 else 0) + pars w = _
          rw [if_pos rfl]; omega
        rw [this]; exact ⟨rfl, rfl, by omega⟩
      · simp only [List.length_cons, if_true]; omega
      · rw [bins_zero (Or.inl rfl)]; simp only [if_true]; omega
      · simp only [List.length_cons]; omega
      · simp only [List.length_cons]; omega
      · simp only [if_true]; exact x16
      · simp only [List.length_cons]; omega
      · exact (FXb_sF (by omega)).trans (FXb_sF (by omega))
      · exact ((FXc_sF (pl := pl) (Or.inr (Or.inr rfl))).trans (FXc_sF (pl := pl) (Or.inr (Or.inl rfl))) (Nat.le_refl _)).trans (FXc_sF (pl := pl) (Or.inl rfl)) (Nat.le_refl _)
      · unfold wp_X1_opensParenthesis
        rw [Cs_1 h1 (show (14 : Nat) ≠ 13 by decide)]
        show (b.1 14 = 20 → _) ∧ (¬ b.1 14 = 20 → ∀ σ2 : S9, σ2 = sF σ1 14 (b.1 14 + 1) → _)
        rw [x3.1, nI_1]
        refine pk_eq (pars w) 20 (fun z => absurd z h20) (fun _ => nm_e ?_)
        refine s_holds (Cs_sF h1 (by decide) _) (by omega) rfl (fun σ2 h2 => ⟨rfl, rfl, s_takes1 ?_ (k σ2 h2)⟩)
        rw [Cs_1 h2 (show (16 : Nat) ≠ 13 by decide)]; exact x16
      · have hk2 : MG (sF (sF (sF c 9 (nI (f + 1))) 7 (nI (pars w + 1))) 3 (nI (j + 1))) ((11, 0) :: (10, 0) :: (8, 0) :: (6, 0) :: (12, 0) :: fr base fo w 0) Ψ := by
          have : xTh base fo ((40, 0) :: w) true = (11, 0) :: (10, 0) :: (8, 0) :: (6, 0) :: (12, 0) :: fr base fo w 0 := by
            show (11, 0) :: fr base fo ((40, 0) :: w) 0 = _
            rw [fr_c0, if_neg (show ¬ (0 : Int32) = 4 by decide), if_neg (show ¬ (0 : Int32) = 3 by decide), if_neg (show ¬ (0 : Int32) = 2 by decide), if_neg (show ¬ (0 : Int32) = 1 by decide)]
          rw [this] at kk; exact kk
        have hk3 := mg_expr (c := sF (sF (sF c 9 (nI (f + 1))) 7 (nI (pars w + 1))) 3 (nI (j + 1))) (l := (12, 0) :: fr base fo w 0) w4 (by simp only [List.length_cons]; omega) hk2
        refine m_fac (kd := kd) hwd (by omega) x4.2.1 hf60 (fun τ1 K h1 kc => ?_) hk3
        rw [ek]
        refine br_f (by decide) (br_f (by decide) (br_f (by decide) (br_f (by decide) (br_f (by decide) (br_t rfl ?_)))))
        rw [St_1 h1 (show (7 : Nat) ≠ 5 by decide)]
        show (20 ≤ c.1 7 → _) ∧ (¬ 20 ≤ c.1 7 → ∀ σ4 : S9, σ4 = sF τ1 7 (c.1 7 + 1) → _)
        rw [x3.2.1, nI_1]
        refine pk_le 20 (pars w) (fun z => absurd z (by omega)) (fun _ => nm_e (nm_e ?_))
        have h2 := St_sF h1 (show (7 : Nat) ≠ 5 by decide) (nI (pars w + 1))
        rw [St_1 h2 (show (3 : Nat) ≠ 5 by decide)]
        show wp_X11_come 12 0 (sF (sF τ1 7 (nI (pars w + 1))) 3 (c.1 3 + 1)) _
        rw [w1, nI_1]
        exact s_come (St_sF h2 (show (3 : Nat) ≠ 5 by decide) _) (by omega) (fun τ2 h2 => s_come h2 (by simp only [List.length_cons]; omega) kc)
  by_cases e45 : x = 45
  · have ek : kd = 145 := (wk_sg hk 45 (by unfold isSg; omega)).mpr e45
    refine Or.inl (pre 126 2 (Or.inl rfl) (by decide) (fun σ1 Φ h1 k => br_f e35 (br_f e40 (br_t e45 k))) (fun τ1 K k => ?_))
    rw [ek]
    refine br_f (by decide) (br_f (by decide) (br_f (by decide) (br_t rfl ?_)))
    unfold wp_X11_factor_b127
    exact nm_e (br_t rfl k)
  by_cases e64 : x = 64
  · have ek : kd = 164 := (wk_sg hk 64 (by unfold isSg; omega)).mpr e64
    refine Or.inl (pre 64 3 (Or.inr rfl) (by decide) (fun σ1 Φ h1 k => br_f e35 (br_f e40 (br_f e45 (br_f (by rw [e64]; decide) (br_t e64 k))))) (fun τ1 K k => ?_))
    rw [ek]
    refine br_f (by decide) (br_f (by decide) (br_f (by decide) (br_f (by decide) (br_t rfl ?_))))
    unfold wp_X11_factor_b127
    exact nm_e (br_f (by decide) k)
  have n135 : ¬ kd = 135 := fun z => e35 ((wk_sg hk 35 (by unfold isSg; omega)).mp z)
  have n140 : ¬ kd = 140 := fun z => e40 ((wk_sg hk 40 (by unfold isSg; omega)).mp z)
  have n145 : ¬ kd = 145 := fun z => e45 ((wk_sg hk 45 (by unfold isSg; omega)).mp z)
  have n164 : ¬ kd = 164 := fun z => e64 ((wk_sg hk 64 (by unfold isSg; omega)).mp z)
  by_cases e48 : x = 48
  · have hk2 := hk
    rcases hk2 with ⟨q, -⟩ | ⟨-, q1, q2, q3⟩ | ⟨-, q1, q2⟩ | ⟨p, hp, q, -⟩ | ⟨p, hp, q, -⟩ | ⟨p, hp, q, -⟩
    · rw [q] at e48; exact absurd e48 (by decide)
    · refine Or.inl (atom 48 v (Or.inl rfl) (fun z => absurd z (by decide)) (fun σ1 Φ h1 k => br_f e35 (br_f e40 (br_f e45 (br_t e48 ?_)))) (fun τ1 K h1 k => ?_))
      · have e22 : σ1.2.2 = num := by rw [Cs_22 h1]; exact hnum
        refine s_isTooGreat (fun z => absurd (by rw [e22]; exact q3) z) (fun z => br_t rfl ?_)
        rw [e22, ← q2]
        exact wOp_mono (fun σ q => br_f (by decide) q) k
      · rw [q1]
        refine br_t rfl ?_
        unfold wp_X11_factor_b50 wp_X11_factor_b61
        refine br_t rfl ?_
        rw [St_1 h1 (show (3 : Nat) ≠ 5 by decide), St_2 h1 (show (2 : Nat) ≠ 4 by decide) (by decide)]
        show vp_in (c.1 3) 3002 ∧ wp_X11_put 0 (c.2.1 2 (c.1 3).toNatClampNeg) τ1 _
        rw [w1, nI_clamp (by omega), hv]
        exact ⟨pk_in j 3002 (by omega), k⟩
    · refine Or.inr (rej (fun σ1 Φ h1 k => br_f e35 (br_f e40 (br_f e45 (br_t e48 ?_)))) (fun τ1 K h1 k => ?_))
      · have e22 : σ1.2.2 = num := by rw [Cs_22 h1]; exact hnum
        exact s_isTooGreat (fun z => br_f (by decide) (s_takes0 k)) (fun z => absurd (by rw [← e22]; exact z) q2)
      · rw [q1]
        exact br_f (by decide) (br_f (by decide) (br_f (by decide) (br_f (by decide) (br_f (by decide) (br_f (by decide) k)))))
    · rw [q, show (48 : Int32) = nI 48 from rfl, nI_inj (by omega) (by omega)] at e48; omega
    · rw [q, show (48 : Int32) = nI 48 from rfl, nI_inj (by omega) (by omega)] at e48; omega
    · obtain ⟨q1, q2, q3, q4, q5⟩ := hp
      rw [q, show (48 : Int32) = nI 48 from rfl, nI_inj (by omega) (by omega)] at e48; omega
  have n1 : ¬ kd = 1 := fun z => e48 ((wk_num hk).mpr (Or.inl z))
  by_cases enm : ¬ x < 97 ∧ ¬ 122 < x
  · have ek : kd = 3 := (wk_name hk).mp enm
    have evp : ∃ p : Nat, p < 26 ∧ v = nI p := by
      rcases hk with ⟨-, q⟩ | ⟨-, q, -⟩ | ⟨-, q, -⟩ | ⟨p, hp, q, -, q2⟩ | ⟨p, hp, -, q, -⟩ | ⟨p, hp, -, q⟩
      · rw [q] at ek; exact absurd ek (by decide)
      · rw [q] at ek; exact absurd ek (by decide)
      · rw [q] at ek; exact absurd ek (by decide)
      · exact ⟨p, hp, q2⟩
      · rw [q] at ek; exact absurd ek (by decide)
      · obtain ⟨q1, q2, q3, q4, q5⟩ := hp
        rw [q, show (3 : Int32) = nI 3 from rfl, nI_inj (by omega) (by omega)] at ek; omega
    have evx : v = x - 97 := by
      rcases hk with ⟨-, q⟩ | ⟨-, q, -⟩ | ⟨-, q, -⟩ | ⟨p, hp, q, -, q2⟩ | ⟨p, hp, -, q, -⟩ | ⟨p, hp, -, q⟩
      · rw [q] at ek; exact absurd ek (by decide)
      · rw [q] at ek; exact absurd ek (by decide)
      · rw [q] at ek; exact absurd ek (by decide)
      · rw [q2, q, show (97 : Int32) = nI 97 from rfl, pk_sub (by omega)]; congr 1; omega
      · rw [q] at ek; exact absurd ek (by decide)
      · obtain ⟨q1, q2, q3, q4, q5⟩ := hp
        rw [q, show (3 : Int32) = nI 3 from rfl, nI_inj (by omega) (by omega)] at ek; omega
    refine Or.inl (atom 97 v (Or.inr (Or.inl rfl)) (fun _ => evp) (fun σ1 Φ h1 k => br_f e35 (br_f e40 (br_f e45 (br_f e48 (br_f e64 ?_))))) (fun τ1 K h1 k => ?_))
    · refine s_isName (fun _ => br_f (by decide) ?_) (fun z => absurd enm z)
      rw [← evx]
      exact wOp_mono (fun σ q => br_f (by decide) q) k
    · rw [ek]
      refine br_f (by decide) (br_t rfl ?_)
      unfold wp_X11_factor_b50 wp_X11_factor_b61
      refine br_f (by decide) ?_
      rw [St_1 h1 (show (3 : Nat) ≠ 5 by decide), St_2 h1 (show (2 : Nat) ≠ 4 by decide) (by decide)]
      show vp_in (c.1 3) 3002 ∧ wp_X11_put 1 (c.2.1 2 (c.1 3).toNatClampNeg) τ1 _
      rw [w1, nI_clamp (by omega), hv]
      exact ⟨pk_in j 3002 (by omega), k⟩
  have n3 : ¬ kd = 3 := fun z => enm ((wk_name hk).mpr z)
  refine Or.inr (rej (fun σ1 Φ h1 k => br_f e35 (br_f e40 (br_f e45 (br_f e48 (br_f e64 (s_isName (fun z => absurd z enm) (fun _ => br_t rfl (s_takes0 k)))))))) (fun τ1 K h1 k => br_f n1 (br_f n3 (br_f n135 (br_f n145 (br_f n164 (br_f n140 k)))))))
