/-! ===== what a step does ===== -/
theorem PQB_rf {B B' : AR} (h : ∀ k, k ≤ 18 → B' k = B k) : PQB B B' := ⟨h 2 (by omega), h 3 (by omega), h 4 (by omega), h 6 (by omega), h 7 (by omega), h 8 (by omega), h 9 (by omega), h 10 (by omega), h 11 (by omega), h 12 (by omega), h 13 (by omega)⟩
theorem PQC_rf {C C' : AR} (h : ∀ k, k ≤ 19 → C' k = C k) : PQC C C' := ⟨h 6 (by omega), h 7 (by omega), h 8 (by omega), h 9 (by omega), h 10 (by omega), h 11 (by omega), h 12 (by omega), h 13 (by omega), h 14 (by omega)⟩
theorem PG_up {B B' C C' : AR} {g : GH} {S M pl : Nat} (h : PG B C g S M pl) (hB : PQB B B') (hC : PQC C C') : PG B' C' g S M pl := by rw [PG_congr hB hC]; exact h
theorem FR_up {B B' C C' : AR} {g : GH} {S M n : Nat} {o : Nat → Nat} (h : FR B C g S M o n) (b22 : B' 22 = B 22) (c20 : C' 20 = C 20) (c6 : C' 6 = C 6) (c7 : C' 7 = C 7) : FR B' C' g S M o n := by rw [FR_congr b22 c20 c6 c7]; exact h
theorem LND_up {C C' : AR} {g : GH} {S M h ow : Nat} {x : Int32} (q : LND C g S M h ow x) (h6 : C' 6 = C 6) (h7 : C' 7 = C 7) : LND C' g S M h ow x := by rw [LND_congr h6 h7]; exact q
theorem sA_ne {σ : S9} {k j : Nat} {f : Nat → Int32} (h : j ≠ k) : (sA σ k f).2.1 j = σ.2.1 j := vup_ne h
theorem one_step {σ τ : S9} {g : GH} {S M pl rd inp n lim s : Nat} {o : Nat → Nat} (hR : RN σ τ g S M pl rd inp n lim o) (hlim : lim < 1000000) (htr : τ.1 18 = 0) (hs : s < S) (h19 : σ.1 19 = nI s) (h17 : τ.1 17 = nI (g 0 s)) (how : g 2 s = o n) : ONE σ τ g S M pl rd inp n lim o := by
  have hP := hR.pg
  have hsl := hP.sl
  have hml := hP.ml
  have hgm := hP.gm s hs
  obtain ⟨kd, pl1, pl2, pl3, k61, k65⟩ := hP.ss s hs
  unfold ONE
  rw [h17]
  rcases ev_step hP hR.eb hR.r23 hR.rl (hR.tr.trans htr) hs h19 with ⟨x, σ', τ', hE, hc, z2, z3⟩ | ⟨r, z1, z⟩
  · refine Or.inl ?_
    have hN := RN_ev hR hE htr
    obtain ⟨f1, f2, f3, f4, f5, f6, f7, f8, f9⟩ := hE
    obtain ⟨σ1, hσ1⟩ : ∃ σ1, σ1 = sF σ' 22 (σ'.1 22 + σ'.1 23) := ⟨_, rfl⟩
    obtain ⟨τ6, hτ6⟩ : ∃ τ6, τ6 = sF (sF τ' 18 0) 23 (τ'.1 24) := ⟨_, rfl⟩
    rw [← hσ1, ← hτ6] at hN
    -- how the arrays and scalars of σ1, τ6 stand to those of σ, τ
    have s1 : ∀ k, k ≠ 20 → k ≠ 22 → k ≠ 23 → k ≠ 24 → σ1.1 k = σ.1 k := fun k e1 e2 e3 e4 => by rw [hσ1]; exact (pk_un e2).trans (f1.1 k e1 e3 e4)
    have a1 : ∀ k, k ≠ 23 → σ1.2.1 k = σ.2.1 k := fun k e => by rw [hσ1]; exact f1.2.1 k e
    have s6 : ∀ k, k ≠ 18 → k ≠ 23 → k ≠ 24 → k ≠ 25 → τ6.1 k = τ.1 k := fun k e1 e2 e3 e4 => by rw [hτ6]; exact (pk_un e2).trans ((pk_un e1).trans (f2.1 k e3 e4))
    have a6 : ∀ k, k ≠ 25 → τ6.2.1 k = τ.2.1 k := fun k e => by rw [hτ6]; exact f2.2.1 k e
    have v23 : σ1.2.1 23 = σ'.2.1 23 := by rw [hσ1]; rfl
    have v25 : τ6.2.1 25 = τ'.2.1 25 := by rw [hτ6]; rfl
    have d25 : τ6.1 25 = nI (hfin (σ.2.1 2 s)) := by rw [hτ6]; exact f7
    have h1719 : σ1.1 19 = nI s := (s1 19 (by decide) (by decide) (by decide) (by decide)).trans h19
    have h176 : τ6.1 17 = nI (g 0 s) := (s6 17 (by decide) (by decide) (by decide) (by decide)).trans h17
    have tr0 : σ1.1 20 = 0 := by rw [hσ1]; exact f3
    -- the class
    have cls : ∀ (Φ : S9 → Prop), wp_X3_act (nI s) σ1 (fun r2 σ2 => wp_X3_leaveEndedCalls (sF σ2 19 r2) (fun σ4 => Φ σ4)) → wp_X3_doStep σ Φ := by
      intro Φ q
      refine z2 Φ ?_
      unfold wp_X3_doStep_b45
      refine br_t f3 (nm_e ?_)
      rw [← hσ1, h1719]
      simp only [forall_eq]
      exact q
    -- the reference
    have mdl : ∀ (Ψ Q : S9 → Prop), wp_X11_effect (nI (g 0 s)) τ6 (fun σ7 => wp_X11_settle σ7 (fun σ8 => Ψ σ8)) → wp_X11_workOut (nI (g 0 s)) τ (fun r5 σ4 => ∀ σ5 : S9, σ5 = sF σ4 18 r5 → ((σ5.1 18) = 0 → ∀ σ6 : S9, σ6 = sF σ5 23 (σ5.1 24) → wp_X11_effect (σ6.1 17) σ6 (fun σ7 => wp_X11_settle σ7 (fun σ8 => Ψ σ8))) ∧ (¬ (σ5.1 18) = 0 → Q σ5)) := by
      intro Ψ Q q
      refine z3 _ (nm_e (br_t rfl (nm_e ?_)))
      have e : sF (sF τ' 18 0) 23 ((sF τ' 18 0).1 24) = τ6 := hτ6.symm
      rw [e, h176]; exact q
    -- its value
    have effV : ∀ (F : S9 → Prop), (1 ≤ hfin (σ.2.1 2 s) → wp_X11_effect_b22 F (nI (g 0 s)) (τ6.2.1 25 (hfin (σ.2.1 2 s) - 1)) τ6) → (hfin (σ.2.1 2 s) = 0 → wp_X11_effect_b22 F (nI (g 0 s)) 0 τ6) → wp_X11_effect (nI (g 0 s)) τ6 F := by
      intro F q1 q0
      have h3 : hfin (σ.2.1 2 s) ≤ 2 := by
        unfold hfin
        split
        · omega
        · split
          · omega
          · omega
      unfold wp_X11_effect
      rw [d25]
      refine pk_le (hfin (σ.2.1 2 s)) 0 (fun z => q0 (by omega)) (fun z => ?_)
      rw [nI_sub1 (by omega), nI_clamp (by omega)]
      exact ⟨pk_in (hfin (σ.2.1 2 s) - 1) 400 (by omega), q1 (by omega)⟩
    have hin : vp_in (nI (g 0 s)) 1200 := pk_in (g 0 s) 1200 (by omega)
    have his : vp_in (nI s) 300 := pk_in s 300 (by omega)
    have hcl : (nI (g 0 s)).toNatClampNeg = g 0 s := nI_clamp (by omega)
    have hcs : (nI s).toNatClampNeg = s := nI_clamp (by omega)
    obtain ⟨τ8, hτ8⟩ : ∃ τ8, τ8 = sF τ6 17 (nI (g 0 s + 1)) := ⟨_, rfl⟩
    have c6 : τ6.2.1 6 (g 0 s) = τ.2.1 6 (g 0 s) := by rw [a6 6 (by decide)]
    have c7 : τ6.2.1 7 (g 0 s) = τ.2.1 7 (g 0 s) := by rw [a6 7 (by decide)]
    have b2 : σ1.2.1 2 s = σ.2.1 2 s := by rw [a1 2 (by decide)]
    have b4 : σ1.2.1 4 s = σ.2.1 4 s := by rw [a1 4 (by decide)]
    have b6 : σ1.2.1 6 s = σ.2.1 6 s := by rw [a1 6 (by decide)]
    have b7 : σ1.2.1 7 s = σ.2.1 7 s := by rw [a1 7 (by decide)]
    have b8 : σ1.2.1 8 s = σ.2.1 8 s := by rw [a1 8 (by decide)]
    have hLN : ∀ {h ow : Nat} {y : Int32}, LND τ.2.1 g S M h ow y → LND τ6.2.1 g S M h ow y := fun q => by rw [LND_congr (a6 6 (by decide)) (a6 7 (by decide))]; exact q
    -- all comes together
    have fin : ∀ (σ2 τ7 : S9) (y : Int32) (h2 n2 : Nat) (o2 : Nat → Nat), RN σ2 τ7 g S M pl (rd + x) inp n2 (lim + 1) o2 → τ7.1 17 = nI h2 → LND τ7.2.1 g S M h2 (o2 n2) y → σ2.1 20 = 0 → σ2.1 21 = σ1.1 21 → τ7.1 19 = τ6.1 19 → (∀ k, k ≤ 16 → σ2.1 k = σ1.1 k) → (∀ k, k ≤ 18 → σ2.2.1 k = σ1.2.1 k) → (∀ k, k ≤ 16 ∨ k = 22 → τ7.1 k = τ6.1 k) → (∀ k, k ≤ 19 ∨ k = 24 → τ7.2.1 k = τ6.2.1 k) →
        (∀ F : Int32 → S9 → Prop, F y σ2 → wp_X3_act (nI s) σ1 F) → (∀ F : S9 → Prop, F τ7 → wp_X11_effect (nI (g 0 s)) τ6 F) →
        ∃ (n' rd' : Nat) (o' : Nat → Nat) (σ' τ' : S9), RS σ' τ' g S M pl rd' inp n' (lim + 1) o' ∧ σ'.1 20 = 0 ∧ σ'.1 21 = σ.1 21 ∧ τ'.1 19 = τ.1 19 ∧ (∀ k, k ≤ 16 → σ'.1 k = σ.1 k) ∧ (∀ k, k ≤ 18 → σ'.2.1 k = σ.2.1 k) ∧ (∀ k, k ≤ 16 ∨ k = 22 → τ'.1 k = τ.1 k) ∧ (∀ k, k ≤ 19 ∨ k = 24 → τ'.2.1 k = τ.2.1 k) ∧
          (∀ Φ : S9 → Prop, Φ σ' → wp_X3_doStep σ Φ) ∧ ∀ Ψ Q : S9 → Prop, Ψ τ' → wp_X11_workOut (nI (g 0 s)) τ (fun r5 σ4 => ∀ σ5 : S9, σ5 = sF σ4 18 r5 → ((σ5.1 18) = 0 → ∀ σ6 : S9, σ6 = sF σ5 23 (σ5.1 24) → wp_X11_effect (σ6.1 17) σ6 (fun σ7 => wp_X11_settle σ7 (fun σ8 => Ψ σ8))) ∧ (¬ (σ5.1 18) = 0 → Q σ5)) := by
      intro σ2 τ7 y h2 n2 o2 hR2 e17 hl e20 e21 e19 q1 q2 q3 q4 q5 q6
      obtain ⟨n', σ3, τ3, r1, r2, r3, r4, r5, r6, r7, r8⟩ := step_fin hR2 e17 hl
      refine ⟨n', rd + x, o2, σ3, τ3, r1, r2.trans e20, ?_, ?_, fun k hk => ?_, fun k hk => ?_, fun k hk => ?_, fun k hk => ?_, fun Φ q => cls Φ (q5 _ (r7 _ q)), fun Ψ Q q => mdl Ψ Q (q6 _ (r8 _ q))⟩
      · rw [r5 21 (by decide) (by decide), e21, s1 21 (by decide) (by decide) (by decide) (by decide)]
      · rw [r6 19 (by decide) (by decide), e19, s6 19 (by decide) (by decide) (by decide) (by decide)]
      · rw [r5 k (by omega) (by omega), q1 k hk, s1 k (by omega) (by omega) (by omega) (by omega)]
      · rw [r3, q2 k hk, a1 k (by omega)]
      · rw [r6 k (by omega) (by omega), q3 k hk, s6 k (by omega) (by omega) (by omega) (by omega)]
      · rw [r4, q4 k hk, a6 k (by omega)]
    -- act and effect, kind by kind
    have act0 : ∀ F : Int32 → S9 → Prop, ((σ.2.1 2 s) = (33 : Int32) → vp_in (0 : Int32) 60 ∧ wp_X5_append (σ1.2.1 23 0) σ1 (fun σ1' => vp_in (nI s) 300 ∧ F (σ1'.2.1 8 s) σ1')) ∧ (¬ (σ.2.1 2 s) = (33 : Int32) → ((σ.2.1 2 s) = (61 : Int32) → vp_in (0 : Int32) 60 ∧ vp_in (σ.2.1 4 s) 26 ∧ ∀ σ2 : S9, σ2 = sA σ1 20 (upd (σ1.2.1 20) (σ.2.1 4 s).toNatClampNeg (σ1.2.1 23 0)) → vp_in (nI s) 300 ∧ F (σ2.2.1 8 s) σ2) ∧ (¬ (σ.2.1 2 s) = (61 : Int32) → ((σ.2.1 2 s) = (63 : Int32) → wp_X3_choose (nI s) σ1 (fun r12 σ3 => F r12 σ3)) ∧ (¬ (σ.2.1 2 s) = (63 : Int32) → ((σ.2.1 2 s) = (64 : Int32) → vp_in (0 : Int32) 60 ∧ vp_in (1 : Int32) 60 ∧ vp_in (σ1.2.1 23 0) 100 ∧ ∀ σ4 : S9, σ4 = sA σ1 21 (upd (σ1.2.1 21) (σ1.2.1 23 0).toNatClampNeg (σ1.2.1 23 1)) → vp_in (nI s) 300 ∧ F (σ4.2.1 8 s) σ4) ∧ (¬ (σ.2.1 2 s) = (64 : Int32) → ((σ.2.1 2 s) = (65 : Int32) → vp_in (nI s) 300 ∧ wp_X3_openCall (σ.2.1 8 s) σ1 (fun σ5 => vp_in (σ.2.1 4 s) 27 ∧ F (σ5.2.1 12 (σ.2.1 4 s).toNatClampNeg) σ5)) ∧ (¬ (σ.2.1 2 s) = (65 : Int32) → wp_X3_loop (nI s) σ1 (fun r21 σ6 => F r21 σ6)))))) → wp_X3_act (nI s) σ1 F := by
      intro F q
      unfold wp_X3_act
      rw [hcs, b4, b2, b8]
      exact ⟨his, nm_e ⟨his, q⟩⟩
    have eff0 : ∀ (F : S9 → Prop) (t0 : Int32), ((τ.2.1 6 (g 0 s)) = (3 : Int32) → vp_in (nI (g 0 s)) 1200 ∧ vp_in (τ.2.1 7 (g 0 s)) 26 ∧ ∀ σ2 : S9, σ2 = sA τ8 21 (upd (τ8.2.1 21) (τ.2.1 7 (g 0 s)).toNatClampNeg t0) → F σ2) ∧ (¬ (τ.2.1 6 (g 0 s)) = (3 : Int32) → ((τ.2.1 6 (g 0 s)) = (4 : Int32) → vp_in (τ8.1 20) 30 ∧ ∀ σ3 : S9, σ3 = sA τ8 20 (upd (τ8.2.1 20) (τ8.1 20).toNatClampNeg (nI (g 0 s + 1))) → ∀ σ4 : S9, σ4 = sF σ3 20 ((σ3.1 20) + (1 : Int32)) → vp_in (nI (g 0 s)) 1200 ∧ ∀ σ5 : S9, σ5 = sF σ4 17 (σ4.2.1 7 (g 0 s)) → F σ5) ∧ (¬ (τ.2.1 6 (g 0 s)) = (4 : Int32) → ((τ.2.1 6 (g 0 s)) = (133 : Int32) → vp_in ((τ8.1 21) - (τ8.1 21) / (200 : Int32) * (200 : Int32)) 200 ∧ ∀ σ6 : S9, σ6 = sA τ8 23 (upd (τ8.2.1 23) ((τ8.1 21) - (τ8.1 21) / (200 : Int32) * (200 : Int32)).toNatClampNeg t0) → ∀ σ7 : S9, σ7 = sF σ6 21 ((σ6.1 21) + (1 : Int32)) → F σ7) ∧ (¬ (τ.2.1 6 (g 0 s)) = (133 : Int32) → ((τ.2.1 6 (g 0 s)) = (164 : Int32) → vp_in (0 : Int32) 400 ∧ vp_in (τ8.2.1 25 0) 100 ∧ ∀ σ8 : S9, σ8 = sA τ8 22 (upd (τ8.2.1 22) (τ8.2.1 25 0).toNatClampNeg t0) → F σ8) ∧ (¬ (τ.2.1 6 (g 0 s)) = (164 : Int32) → (t0 = 0 → vp_in (nI (g 0 s)) 1200 ∧ ∀ σ10 : S9, σ10 = sF τ8 17 (τ.2.1 7 (g 0 s)) → F σ10) ∧ (¬ t0 = 0 → ∀ σ9 : S9, σ9 = sF τ8 17 (nI (g 0 s + 1)) → F σ9))))) → wp_X11_effect_b22 F (nI (g 0 s)) t0 τ6 := by
      intro F t0 q
      unfold wp_X11_effect_b22
      rw [nI_1]
      refine nm_e ?_
      rw [← hτ8, hcl]
      have e6 : τ8.2.1 6 (g 0 s) = τ.2.1 6 (g 0 s) := by rw [hτ8]; exact c6
      have e7 : τ8.2.1 7 (g 0 s) = τ.2.1 7 (g 0 s) := by rw [hτ8]; exact c7
      have e17 : τ8.1 17 = nI (g 0 s + 1) := by rw [hτ8]; rfl
      rw [e6, e7, e17]
      exact ⟨hin, q⟩
    have hN8 : RN σ1 τ8 g S M pl (rd + x) inp n (lim + 1) o := by
      rw [hτ8]
      exact RN_lim hN (by omega)
    have t8 : ∀ k, k ≠ 17 → τ8.1 k = τ6.1 k := fun k hk => by rw [hτ8]; exact pk_un hk
    have t82 : τ8.2 = τ6.2 := by rw [hτ8]; rfl
    have hLN8 : ∀ {h ow : Nat} {y : Int32}, LND τ.2.1 g S M h ow y → LND τ8.2.1 g S M h ow y := fun q => by rw [t82]; exact hLN q
    have nxt := fun (k1 : ¬ σ.2.1 2 s = 42) (k2 : ¬ σ.2.1 2 s = 63) => hP.nx s hs k1 k2
    obtain ⟨p1, p2, p3, p4, p5, p6, p7, p8, p9, ⟨t, t1, t2, t3⟩, p11, p12⟩ := hN8
    obtain ⟨q1, q2, q3, q4, q5, q6, q7⟩ := p2
    have i0 : vp_in (0 : Int32) 60 := pk_in 0 60 (by omega)
    have i1 : vp_in (1 : Int32) 60 := pk_in 1 60 (by omega)
    have i4 : vp_in (0 : Int32) 400 := pk_in 0 400 (by omega)
    rcases kd with ⟨k1, k2⟩ | ⟨k1, k2⟩ | ⟨k1, k2⟩ | ⟨k1, k2⟩ | ⟨k1, k2⟩ | ⟨k1, k2⟩
    · -- a name
      obtain ⟨p, hp, hp4, hp7⟩ := k61 k1
      have hv : σ1.2.1 23 0 = τ6.2.1 25 0 := by rw [v23, v25]; exact f9 0 (by rw [k1]; decide)
      have hl := nxt (by rw [k1]; decide) (by rw [k1]; decide)
      rw [how] at hl
      refine fin (sA σ1 20 (upd (σ1.2.1 20) p (σ1.2.1 23 0))) (sA τ8 21 (upd (τ8.2.1 21) p (σ1.2.1 23 0))) (σ.2.1 8 s) (g 0 s + 1) n o ⟨?_, ⟨q1, q2, q3, q4, q5, fun i hi => ?_, q7⟩, p3, p4, p5, p6, p7, p8, ?_, ⟨t, t1, t2, t3⟩, p11, p12⟩ (by show τ8.1 17 = _; rw [hτ8]; rfl) ?_ tr0 rfl (t8 19 (by decide)) (fun _ _ => rfl) (fun k hk => sA_ne (σ := σ1) (k := 20) (by omega)) (fun k hk => t8 k (by omega)) (fun k hk => (sA_ne (σ := τ8) (k := 21) (by omega)).trans (by rw [t82])) (fun F q => act0 F ?_) (fun F q => effV F (fun _ => eff0 F _ ?_) (fun z => absurd z (by rw [k1]; decide)))
      · exact PG_up p1 (PQB_rf (fun k hk => sA_ne (σ := σ1) (k := 20) (by omega))) (PQC_rf (fun k hk => sA_ne (σ := τ8) (k := 21) (by omega)))
      · show upd (σ1.2.1 20) p _ i = upd (τ8.2.1 21) p _ i
        by_cases e : i = p
        · rw [e, pk_us, pk_us]
        · rw [pk_un e, pk_un e]; exact q6 i hi
      · exact FR_up p9 rfl rfl rfl rfl
      · exact LND_up (hLN8 hl) rfl rfl
      · rw [k1, hp4, nI_clamp (by omega)]
        refine br_f (by decide) (br_t rfl ⟨i0, pk_in p 26 hp, nm_e ⟨his, ?_⟩⟩)
        rw [show (sA σ1 20 (upd (σ1.2.1 20) p (σ1.2.1 23 0))).2.1 8 s = σ.2.1 8 s from b8]; exact q
      · rw [k2, hp7, nI_clamp (by omega)]
        refine br_t rfl ⟨hin, pk_in p 26 hp, nm_e ?_⟩
        rw [k1, show hfin 61 - 1 = 0 from rfl, ← hv]; exact q
    · -- a cell
      obtain ⟨p, hp, hpe⟩ := hc k1
      have hv0 : σ1.2.1 23 0 = τ6.2.1 25 0 := by rw [v23, v25]; exact f9 0 (by rw [k1]; decide)
      have hv1 : σ1.2.1 23 1 = τ6.2.1 25 1 := by rw [v23, v25]; exact f9 1 (by rw [k1]; decide)
      have hp0 : σ1.2.1 23 0 = nI p := by rw [v23]; exact hpe
      have hp0' : τ8.2.1 25 0 = nI p := by rw [t82, ← hv0]; exact hp0
      have hl := nxt (by rw [k1]; decide) (by rw [k1]; decide)
      rw [how] at hl
      refine fin (sA σ1 21 (upd (σ1.2.1 21) p (σ1.2.1 23 1))) (sA τ8 22 (upd (τ8.2.1 22) p (σ1.2.1 23 1))) (σ.2.1 8 s) (g 0 s + 1) n o ⟨?_, ⟨q1, q2, q3, q4, q5, q6, fun i hi => ?_⟩, p3, p4, p5, p6, p7, p8, ?_, ⟨t, t1, t2, t3⟩, p11, p12⟩ (by show τ8.1 17 = _; rw [hτ8]; rfl) ?_ tr0 rfl (t8 19 (by decide)) (fun _ _ => rfl) (fun k hk => sA_ne (σ := σ1) (k := 21) (by omega)) (fun k hk => t8 k (by omega)) (fun k hk => (sA_ne (σ := τ8) (k := 22) (by omega)).trans (by rw [t82])) (fun F q => act0 F ?_) (fun F q => effV F (fun _ => eff0 F _ ?_) (fun z => absurd z (by rw [k1]; decide)))
      · exact PG_up p1 (PQB_rf (fun k hk => sA_ne (σ := σ1) (k := 21) (by omega))) (PQC_rf (fun k hk => sA_ne (σ := τ8) (k := 22) (by omega)))
      · show upd (σ1.2.1 21) p _ i = upd (τ8.2.1 22) p _ i
        by_cases e : i = p
        · rw [e, pk_us, pk_us]
        · rw [pk_un e, pk_un e]; exact q7 i hi
      · exact FR_up p9 rfl rfl rfl rfl
      · exact LND_up (hLN8 hl) rfl rfl
      · rw [k1, hp0, nI_clamp (by omega)]
        refine br_f (by decide) (br_f (by decide) (br_f (by decide) (br_t rfl ⟨i0, i1, pk_in p 100 hp, nm_e ⟨his, ?_⟩⟩)))
        rw [show (sA σ1 21 (upd (σ1.2.1 21) p (σ1.2.1 23 1))).2.1 8 s = σ.2.1 8 s from b8]; exact q
      · rw [k2, hp0', nI_clamp (by omega)]
        refine br_f (by decide) (br_f (by decide) (br_f (by decide) (br_t rfl ⟨i4, pk_in p 100 hp, nm_e ?_⟩)))
        rw [k1, show hfin 64 - 1 = 1 from rfl, ← hv1]; exact q
    · -- an output
      have hv : σ1.2.1 23 0 = τ6.2.1 25 0 := by rw [v23, v25]; exact f9 0 (by rw [k1]; decide)
      have hl := nxt (by rw [k1]; decide) (by rw [k1]; decide)
      rw [how] at hl
      have htl : t < 2 ^ 30 := by omega
      have hmod : nI t - nI t / 200 * 200 = nI (t % 200) := by rw [show (200 : Int32) = nI 200 from rfl]; exact pk_rem (by omega) (by omega) (by omega)
      have hm2 : t % 200 < 200 := Nat.mod_lt _ (by omega)
      have htlim : t ≤ lim := by
        obtain ⟨t', u1, u2, u3⟩ := hN.ot
        have := nIj (by omega) (by omega) (t1.symm.trans u1)
        omega
      refine fin (sF (sA σ1 19 (upd (σ1.2.1 19) (t % 200) (σ1.2.1 23 0))) 17 (nI (t + 1))) (sF (sA τ8 23 (upd (τ8.2.1 23) (t % 200) (σ1.2.1 23 0))) 21 (nI (t + 1))) (σ.2.1 8 s) (g 0 s + 1) n o ⟨?_, ⟨q1, q2, q3, q4, q5, q6, q7⟩, p3, p4, p5, p6, p7, p8, ?_, ⟨t + 1, rfl, rfl, by omega⟩, fun i hi hi2 => ?_, p12⟩ (by show τ8.1 17 = _; rw [hτ8]; rfl) ?_ tr0 rfl (t8 19 (by decide)) (fun k hk => by show upd σ1.1 17 _ k = _; rw [pk_un (by omega)]) (fun k hk => sA_ne (σ := σ1) (k := 19) (by omega)) (fun k hk => by show upd τ8.1 21 _ k = _; rw [pk_un (by omega)]; exact t8 k (by omega)) (fun k hk => (sA_ne (σ := τ8) (k := 23) (by omega)).trans (by rw [t82])) (fun F q => act0 F ?_) (fun F q => effV F (fun _ => eff0 F _ ?_) (fun z => absurd z (by rw [k1]; decide)))
      · exact PG_up p1 (PQB_rf (fun k hk => sA_ne (σ := σ1) (k := 19) (by omega))) (PQC_rf (fun k hk => sA_ne (σ := τ8) (k := 23) (by omega)))
      · exact FR_up p9 rfl rfl rfl rfl
      · show upd (σ1.2.1 19) (t % 200) _ i = upd (τ8.2.1 23) (t % 200) _ i
        by_cases e : i = t % 200
        · rw [e, pk_us, pk_us]
        · rw [pk_un e, pk_un e]
          have hi3 : i < (nI (t + 1)).toNatClampNeg := hi2
          rw [nI_clamp (by omega)] at hi3
          refine p11 i hi ?_
          rw [t1, nI_clamp (by omega)]
          rcases Nat.lt_or_ge i t with z | z
          · exact z
          · have : i = t := by omega
            subst this
            rw [Nat.mod_eq_of_lt hi] at e; exact absurd rfl e
      · exact LND_up (hLN8 hl) rfl rfl
      · rw [k1]
        refine br_t rfl ⟨i0, ?_⟩
        unfold wp_X5_append
        rw [t1, hmod, nI_clamp (by omega)]
        refine ⟨pk_in (t % 200) 200 hm2, nm_e (nm_e ⟨his, ?_⟩)⟩
        rw [show (sA σ1 19 (upd (σ1.2.1 19) (t % 200) (σ1.2.1 23 0))).1 17 = nI t from t1, nI_1, show (sF (sA σ1 19 (upd (σ1.2.1 19) (t % 200) (σ1.2.1 23 0))) 17 (nI (t + 1))).2.1 8 s = σ.2.1 8 s from b8]
        exact q
      · rw [k2, t2, hmod, nI_clamp (by omega)]
        refine br_f (by decide) (br_f (by decide) (br_t rfl ⟨pk_in (t % 200) 200 hm2, nm_e (nm_e ?_)⟩))
        rw [k1, show hfin 33 - 1 = 0 from rfl, ← hv, show (sA τ8 23 (upd (τ8.2.1 23) (t % 200) (σ1.2.1 23 0))).1 21 = nI t from t2, nI_1]
        exact q
    · -- a call
      obtain ⟨q, e, ow, hq, hq4, he7, heM, hoM, hle⟩ := hP.ca s hs k1
      have hl := nxt (by rw [k1]; decide) (by rw [k1]; decide)
      rw [how] at hl hoM
      have hle26 := FR_le p9 n (Nat.le_refl _)
      have hn26 : n < 26 := by omega
      obtain ⟨o2, ho2⟩ : ∃ o2 : Nat → Nat, o2 = fun i => if i = n + 1 then ow else o i := ⟨_, rfl⟩
      have o2n : o2 (n + 1) = ow := by rw [ho2]; exact if_pos rfl
      have o2i : ∀ i, i ≠ n + 1 → o2 i = o i := fun i hi => by rw [ho2]; exact if_neg hi
      refine fin (sF (sA σ1 22 (upd (σ1.2.1 22) n (σ.2.1 8 s))) 18 (nI (n + 1))) (sF (sF (sA τ8 20 (upd (τ8.2.1 20) n (nI (g 0 s + 1)))) 20 (nI (n + 1))) 17 (nI e)) (σ.2.1 12 q) e (n + 1) o2 ⟨?_, ⟨q1, q2, q3, q4, q5, q6, q7⟩, p3, p4, p5, p6, rfl, rfl, ⟨?_, fun i hi => ?_⟩, ⟨t, t1, t2, t3⟩, p11, p12⟩ rfl ?_ tr0 rfl (t8 19 (by decide)) (fun k hk => by show upd σ1.1 18 _ k = _; rw [pk_un (by omega)]) (fun k hk => sA_ne (σ := σ1) (k := 22) (by omega)) (fun k hk => by show upd (upd τ8.1 20 _) 17 _ k = _; rw [pk_un (by omega), pk_un (by omega)]; exact t8 k (by omega)) (fun k hk => (sA_ne (σ := τ8) (k := 20) (by omega)).trans (by rw [t82])) (fun F q' => act0 F ?_) (fun F q' => effV F (fun z => absurd z (by rw [k1]; decide)) (fun _ => eff0 F _ ?_))
      · exact PG_up p1 (PQB_rf (fun k hk => sA_ne (σ := σ1) (k := 22) (by omega))) (PQC_rf (fun k hk => sA_ne (σ := τ8) (k := 20) (by omega)))
      · rw [o2i 0 (by omega)]; exact p9.1
      · show o2 (i + 1) < o2 i ∧ ∃ h : Nat, upd (τ8.2.1 20) n (nI (g 0 s + 1)) i = nI h ∧ LND (va_up τ8.2.1 20 _) g S M h (o2 i) (upd (σ1.2.1 22) n (σ.2.1 8 s) i)
        by_cases ei : i = n
        · subst ei
          rw [o2n, o2i i (by omega), pk_us, pk_us]
          refine ⟨hoM, g 0 s + 1, rfl, ?_⟩
          exact LND_up (hLN8 hl) rfl rfl
        · rw [o2i (i + 1) (by omega), o2i i (by omega), pk_un ei, pk_un ei]
          obtain ⟨y1, h3, y2, y3⟩ := p9.2 i (by omega)
          refine ⟨y1, h3, y2, ?_⟩
          exact LND_up y3 rfl rfl
      · rw [o2n]; exact LND_up (hLN8 hle) rfl rfl
      · rw [k1, hq4, nI_clamp (by omega)]
        refine br_f (by decide) (br_f (by decide) (br_f (by decide) (br_f (by decide) (br_t rfl ⟨his, ?_⟩))))
        unfold wp_X3_openCall
        rw [p7]
        refine pk_le 26 n (fun z => absurd z (by omega)) (fun _ => ⟨pk_in n 26 hn26, nm_e (nm_e ⟨pk_in q 27 (by omega), ?_⟩)⟩)
        rw [nI_clamp (by omega), show (sA σ1 22 (upd (σ1.2.1 22) n (σ.2.1 8 s))).1 18 = nI n from p7, nI_1, show (sF (sA σ1 22 (upd (σ1.2.1 22) n (σ.2.1 8 s))) 18 (nI (n + 1))).2.1 12 q = σ.2.1 12 q from by show σ1.2.1 12 q = _; rw [a1 12 (by decide)]]
        exact q'
      · rw [k2, p8, nI_clamp (by omega)]
        refine br_f (by decide) (br_t rfl ⟨pk_in n 30 (by omega), nm_e (nm_e ⟨hin, nm_e ?_⟩)⟩)
        rw [show (sA τ8 20 (upd (τ8.2.1 20) n (nI (g 0 s + 1)))).1 20 = nI n from p8, nI_1, show (sF (sA τ8 20 (upd (τ8.2.1 20) n (nI (g 0 s + 1)))) 20 (nI (n + 1))).2.1 7 (g 0 s) = nI e from by show τ8.2.1 7 (g 0 s) = _; rw [t82, c7]; exact he7]
        exact q'
    · -- a condition
      have hv : σ1.2.1 23 0 = τ6.2.1 25 0 := by rw [v23, v25]; exact f9 0 (by rw [k1]; decide)
      obtain ⟨y1, e, y2, y3⟩ := hP.cn s hs k1
      rw [how] at y1 y3
      have actC : ∀ F : Int32 → S9 → Prop, wp_X3_choose (nI s) σ1 (fun r12 σ3 => F r12 σ3) → wp_X3_act (nI s) σ1 F := fun F q => act0 F (by rw [k1]; exact br_f (by decide) (br_f (by decide) (br_t rfl q)))
      have effC : ∀ (F : S9 → Prop), ((σ1.2.1 23 0 = 0 → F (sF τ8 17 (τ.2.1 7 (g 0 s)))) ∧ (¬ σ1.2.1 23 0 = 0 → F (sF τ8 17 (nI (g 0 s + 1))))) → wp_X11_effect (nI (g 0 s)) τ6 F := fun F q => effV F (fun _ => eff0 F _ (by
        rw [k2, k1, show hfin 63 - 1 = 0 from rfl, ← hv]
        exact br_f (by decide) (br_f (by decide) (br_f (by decide) (br_f (by decide) ⟨fun z => ⟨hin, nm_e (q.1 z)⟩, fun z => nm_e (q.2 z)⟩))))) (fun z => absurd z (by rw [k1]; decide))
      by_cases hz : σ1.2.1 23 0 = 0
      · refine fin σ1 (sF τ8 17 (nI e)) (if σ.2.1 7 s = -1 then σ.2.1 8 s else σ.2.1 7 s) e n o ⟨p1, ⟨q1, q2, q3, q4, q5, q6, q7⟩, p3, p4, p5, p6, p7, p8, p9, ⟨t, t1, t2, t3⟩, p11, p12⟩ rfl (hLN8 y3) tr0 rfl (t8 19 (by decide)) (fun _ _ => rfl) (fun _ _ => rfl) (fun k hk => by show upd τ8.1 17 _ k = _; rw [pk_un (by omega)]; exact t8 k (by omega)) (fun k hk => by show τ8.2.1 k = _; rw [t82]) (fun F q => actC F ?_) (fun F q => effC F (br_t hz (by rw [y2]; exact q)))
        unfold wp_X3_choose
        refine ⟨i0, br_t hz ⟨his, ?_⟩⟩
        unfold wp_X3_choose_b33
        rw [hcs, b7, b8]
        exact br_c (fun z => ⟨his, by rw [if_pos z] at q; exact q⟩) (fun z => by rw [if_neg z] at q; exact q)
      · refine fin σ1 (sF τ8 17 (nI (g 0 s + 1))) (if σ.2.1 6 s = -1 then σ.2.1 8 s else σ.2.1 6 s) (g 0 s + 1) n o ⟨p1, ⟨q1, q2, q3, q4, q5, q6, q7⟩, p3, p4, p5, p6, p7, p8, p9, ⟨t, t1, t2, t3⟩, p11, p12⟩ rfl (hLN8 y1) tr0 rfl (t8 19 (by decide)) (fun _ _ => rfl) (fun _ _ => rfl) (fun k hk => by show upd τ8.1 17 _ k = _; rw [pk_un (by omega)]; exact t8 k (by omega)) (fun k hk => by show τ8.2.1 k = _; rw [t82]) (fun F q => actC F ?_) (fun F q => effC F (br_f hz q))
        unfold wp_X3_choose
        refine ⟨i0, br_f hz ⟨his, ?_⟩⟩
        unfold wp_X3_choose_b33
        rw [hcs, b6, b8]
        exact br_c (fun z => ⟨his, by rw [if_pos z] at q; exact q⟩) (fun z => by rw [if_neg z] at q; exact q)
    · -- a loop
      have hv : σ1.2.1 23 0 = τ6.2.1 25 0 := by rw [v23, v25]; exact f9 0 (by rw [k1]; decide)
      obtain ⟨y1, e, y2, y3⟩ := hP.lp s hs k1
      rw [how] at y1 y3
      have actC : ∀ F : Int32 → S9 → Prop, wp_X3_loop (nI s) σ1 (fun r12 σ3 => F r12 σ3) → wp_X3_act (nI s) σ1 F := fun F q => act0 F (by rw [k1]; exact br_f (by decide) (br_f (by decide) (br_f (by decide) (br_f (by decide) (br_f (by decide) q)))))
      have effC : ∀ (F : S9 → Prop), ((σ1.2.1 23 0 = 0 → F (sF τ8 17 (τ.2.1 7 (g 0 s)))) ∧ (¬ σ1.2.1 23 0 = 0 → F (sF τ8 17 (nI (g 0 s + 1))))) → wp_X11_effect (nI (g 0 s)) τ6 F := fun F q => effV F (fun _ => eff0 F _ (by
        rw [k2, k1, show hfin 42 - 1 = 0 from rfl, ← hv]
        exact br_f (by decide) (br_f (by decide) (br_f (by decide) (br_f (by decide) ⟨fun z => ⟨hin, nm_e (q.1 z)⟩, fun z => nm_e (q.2 z)⟩))))) (fun z => absurd z (by rw [k1]; decide))
      by_cases hz : σ1.2.1 23 0 = 0
      · refine fin σ1 (sF τ8 17 (nI e)) (σ.2.1 8 s) e n o ⟨p1, ⟨q1, q2, q3, q4, q5, q6, q7⟩, p3, p4, p5, p6, p7, p8, p9, ⟨t, t1, t2, t3⟩, p11, p12⟩ rfl (hLN8 y3) tr0 rfl (t8 19 (by decide)) (fun _ _ => rfl) (fun _ _ => rfl) (fun k hk => by show upd τ8.1 17 _ k = _; rw [pk_un (by omega)]; exact t8 k (by omega)) (fun k hk => by show τ8.2.1 k = _; rw [t82]) (fun F q => actC F ?_) (fun F q => effC F (br_t hz (by rw [y2]; exact q)))
        unfold wp_X3_loop
        rw [hcs, b8]
        exact ⟨i0, br_t hz ⟨his, q⟩⟩
      · refine fin σ1 (sF τ8 17 (nI (g 0 s + 1))) (if σ.2.1 6 s = -1 then nI s else σ.2.1 6 s) (g 0 s + 1) n o ⟨p1, ⟨q1, q2, q3, q4, q5, q6, q7⟩, p3, p4, p5, p6, p7, p8, p9, ⟨t, t1, t2, t3⟩, p11, p12⟩ rfl (hLN8 y1) tr0 rfl (t8 19 (by decide)) (fun _ _ => rfl) (fun _ _ => rfl) (fun k hk => by show upd τ8.1 17 _ k = _; rw [pk_un (by omega)]; exact t8 k (by omega)) (fun k hk => by show τ8.2.1 k = _; rw [t82]) (fun F q => actC F ?_) (fun F q => effC F (br_f hz q))
        unfold wp_X3_loop
        rw [hcs, b6]
        exact ⟨i0, br_f hz ⟨his, br_c (fun z => by rw [if_pos z] at q; exact q) (fun z => ⟨his, by rw [if_neg z] at q; exact q⟩)⟩⟩
  · exact Or.inr ⟨r, z1, z⟩
