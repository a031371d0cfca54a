/-! ===== a step's expressions, from first mark to last ===== -/
theorem ev_loop {σ0 τ0 : S9} {g : GH} {S M pl rd inp s : Nat} (hP : PG σ0.2.1 τ0.2.1 g S M pl) (hB : EB σ0 τ0 rd inp) (hs : s < S) : ∀ (d k x : Nat) (σ τ : S9), k + d = g 10 s → csg g s ≤ k → EV σ0 τ0 rd inp (hgt (τ0.2.1 12) (csg g s) (k - csg g s)) x σ τ →
    (∃ (x' : Nat) (σ' τ' : S9), EV σ0 τ0 rd inp (hfin (σ0.2.1 2 s)) x' σ' τ' ∧ (∀ Φ : S9 → Prop, Φ σ' → lp_X3_workOut_b32 Φ (d + 1) (nI (g 10 s)) (nI k) σ) ∧ ∀ Ψ : Int32 → S9 → Prop, ((τ'.2.1 6 (g 0 s) = (164 : Int32) → vp_in (0 : Int32) 400 ∧ wp_X11_isCell (τ'.2.1 25 0) τ' (fun r6 σ1 => (r6 = 0 → Ψ (3 : Int32) σ1) ∧ (¬ r6 = 0 → Ψ (0 : Int32) σ1))) ∧ (¬ τ'.2.1 6 (g 0 s) = (164 : Int32) → Ψ (0 : Int32) τ')) → lp_X11_workOut_b20 Ψ (d + 1) (nI (g 0 s)) (nI k) τ) ∨
    ∃ r : Int32, (r = 2 ∨ r = 3 ∨ r = 4) ∧ ∃ σ' τ' : S9, EVf σ0 σ' ∧ σ'.1 20 = r ∧ EVg τ0 τ' ∧ (∀ Φ : S9 → Prop, Φ σ' → lp_X3_workOut_b32 Φ (d + 1) (nI (g 10 s)) (nI k) σ) ∧ ∀ Ψ : Int32 → S9 → Prop, Ψ r τ' → lp_X11_workOut_b20 Ψ (d + 1) (nI (g 0 s)) (nI k) τ := by
  obtain ⟨⟨c1, c2, c3, c4, c5, c6, c7⟩, hpl⟩ := hP.cd s hs
  have hgm := hP.gm s hs
  have hml := hP.ml
  have hps := hP.ps
  have hin : vp_in (nI (g 0 s)) 1200 := pk_in (g 0 s) 1200 (by omega)
  intro d
  induction d with
  | zero =>
    intro k x σ τ hk ha hE
    have ek : k = g 10 s := by omega
    subst ek
    rw [c7] at hE
    refine Or.inl ⟨x, σ, τ, hE, fun Φ q => ?_, fun Ψ q => ?_⟩
    · show bd_X3_workOut_b32 _ Φ _ _ σ
      unfold bd_X3_workOut_b32
      exact br_t (nI_le (Nat.le_refl _) (by omega)) q
    · show bd_X11_workOut_b20 _ Ψ _ _ τ
      unfold bd_X11_workOut_b20
      rw [nI_clamp (by omega), hE.2.1.2.1 9 (by decide), c3]
      exact ⟨hin, br_t (nI_le (Nat.le_refl _) (by omega)) ⟨hin, q⟩⟩
  | succ d ih =>
    intro k x σ τ hk ha hE
    obtain ⟨m1, m2, m3, m4⟩ := hP.mk k (by omega)
    obtain ⟨q1, q2⟩ := c6 (k - csg g s) (by omega)
    have ekk : csg g s + (k - csg g s) = k := by omega
    rw [ekk, m1] at q1
    have hst : hgt (τ0.2.1 12) (csg g s) (k + 1 - csg g s) = hstep (mk (σ0.2.1 10 k)) (hgt (τ0.2.1 12) (csg g s) (k - csg g s)) := by
      rw [show k + 1 - csg g s = (k - csg g s) + 1 by omega]
      show hstep (τ0.2.1 12 (csg g s + (k - csg g s))) _ = _
      rw [ekk, m1]
    rw [show k - csg g s + 1 = k + 1 - csg g s by omega, hst] at q2
    have hh60 : hgt (τ0.2.1 12) (csg g s) (k - csg g s) ≤ 60 := by
      by_cases e : k = csg g s
      · rw [e, Nat.sub_self]; show 0 ≤ 60; omega
      · have := (c6 (k - csg g s - 1) (by omega)).2
        rw [show k - csg g s - 1 + 1 = k - csg g s by omega] at this
        exact this
    have e10 : σ.2.1 10 k = σ0.2.1 10 k := by rw [hE.1.2.1 10 (by decide)]
    have e11 : σ.2.1 11 k = σ0.2.1 11 k := by rw [hE.1.2.1 11 (by decide)]
    have t12 : τ.2.1 12 k = mk (σ0.2.1 10 k) := by rw [hE.2.1.2.1 12 (by decide)]; exact m1
    have t13 : τ.2.1 13 k = σ0.2.1 11 k := by rw [hE.2.1.2.1 13 (by decide)]; exact m2
    have t9 : τ.2.1 9 (g 0 s) = nI (g 10 s) := by rw [hE.2.1.2.1 9 (by decide)]; exact c3
    have cls : ∀ Φ : S9 → Prop, wp_X3_workOutSign (σ0.2.1 10 k) (σ0.2.1 11 k) σ (fun σ1 => lp_X3_workOut_b32 Φ (d + 1) (nI (g 10 s)) (nI (k + 1)) σ1) → lp_X3_workOut_b32 Φ (d + 1 + 1) (nI (g 10 s)) (nI k) σ := by
      intro Φ q
      show bd_X3_workOut_b32 (lp_X3_workOut_b32 Φ (d + 1)) Φ _ _ σ
      unfold bd_X3_workOut_b32
      rw [nI_clamp (by omega), e10, e11, hE.2.2.1, nI_1]
      refine br_f (nI_ge (by omega) (by omega)) (br_t rfl ⟨pk_in k 3000 (by omega), pk_in k 3000 (by omega), ?_⟩)
      simp only [forall_eq]
      exact q
    have mdl : ∀ Ψ : Int32 → S9 → Prop, wp_X11_work (mk (σ0.2.1 10 k)) (σ0.2.1 11 k) τ (fun r10 σ2 => (r10 ≤ 0 → lp_X11_workOut_b20 Ψ (d + 1) (nI (g 0 s)) (nI (k + 1)) σ2) ∧ (¬ r10 ≤ 0 → Ψ r10 σ2)) → lp_X11_workOut_b20 Ψ (d + 1 + 1) (nI (g 0 s)) (nI k) τ := by
      intro Ψ q
      show bd_X11_workOut_b20 (lp_X11_workOut_b20 Ψ (d + 1)) Ψ _ _ τ
      unfold bd_X11_workOut_b20
      rw [nI_clamp (show g 0 s < 2 ^ 31 by omega), nI_clamp (show k < 2 ^ 31 by omega), t9, t12, t13, nI_1]
      refine ⟨hin, br_f (nI_ge (by omega) (by omega)) ⟨pk_in k 3002 (by omega), pk_in k 3002 (by omega), ?_⟩⟩
      simp only [forall_eq]
      exact q
    rcases ev_sign (s := σ0.2.1 10 k) (v := σ0.2.1 11 k) hB hE m3 m4 q1 q2 hh60 with ⟨x', σ', τ', r1, r2, r3⟩ | ⟨r, r1, σ', τ', h1, h2, h3, r2, r3⟩
    · rw [← hst] at r1
      rcases ih (k + 1) x' σ' τ' (by omega) (by omega) r1 with ⟨x2, σ2, τ2, z1, z2, z3⟩ | ⟨r, z1, σ2, τ2, y1, y2, y3, z2, z3⟩
      · exact Or.inl ⟨x2, σ2, τ2, z1, fun Φ q => cls Φ (r2 _ (z2 Φ q)), fun Ψ q => mdl Ψ (r3 _ (br_t (by decide) (z3 Ψ q)))⟩
      · exact Or.inr ⟨r, z1, σ2, τ2, y1, y2, y3, fun Φ q => cls Φ (r2 _ (z2 Φ q)), fun Ψ q => mdl Ψ (r3 _ (br_t (by decide) (z3 Ψ q)))⟩
    · refine Or.inr ⟨r, r1, σ', τ', h1, h2, h3, fun Φ q => cls Φ (r2 _ ?_), fun Ψ q => mdl Ψ (r3 _ (br_f ?_ q))⟩
      · show bd_X3_workOut_b32 _ Φ _ _ σ'
        unfold bd_X3_workOut_b32
        have hne : ¬ σ'.1 20 = 0 := by rw [h2]; rcases r1 with rfl | rfl | rfl <;> decide
        exact br_c (fun _ => q) (fun _ => br_f hne q)
      · rcases r1 with rfl | rfl | rfl <;> decide
/-- the whole of a step's working out, the look at its cell with it -/
theorem ev_step {σ τ : S9} {g : GH} {S M pl rd inp s : Nat} (hP : PG σ.2.1 τ.2.1 g S M pl) (hB : EB σ τ rd inp) (hr : τ.1 23 = nI rd) (hrl : rd ≤ inp) (htr : σ.1 20 = 0) (hs : s < S) (h19 : σ.1 19 = nI s) :
    (∃ (x' : Nat) (σ' τ' : S9), EV σ τ rd inp (hfin (σ.2.1 2 s)) x' σ' τ' ∧ (σ.2.1 2 s = 64 → ∃ p : Nat, p < 100 ∧ σ'.2.1 23 0 = nI p) ∧ (∀ Φ : S9 → Prop, wp_X3_doStep_b45 Φ σ' → wp_X3_doStep σ Φ) ∧ ∀ Ψ : Int32 → S9 → Prop, Ψ 0 τ' → wp_X11_workOut (nI (g 0 s)) τ Ψ) ∨
    ∃ r : Int32, (r = 2 ∨ r = 3 ∨ r = 4) ∧ ∃ σ' τ' : S9, EVf σ σ' ∧ σ'.1 20 = r ∧ EVg τ τ' ∧ (∀ Φ : S9 → Prop, Φ σ' → wp_X3_doStep σ Φ) ∧ ∀ Ψ : Int32 → S9 → Prop, Ψ r τ' → wp_X11_workOut (nI (g 0 s)) τ Ψ := by
  obtain ⟨⟨c1, c2, c3, c4, c5, c6, c7⟩, hpl⟩ := hP.cd s hs
  have hsl := hP.sl
  have hgm := hP.gm s hs
  have hml := hP.ml
  have hps := hP.ps
  obtain ⟨σ2, hσ2⟩ : ∃ σ2, σ2 = sF (sF σ 24 0) 23 0 := ⟨_, rfl⟩
  obtain ⟨τ2, hτ2⟩ : ∃ τ2, τ2 = sF (sF τ 24 (τ.1 23)) 25 0 := ⟨_, rfl⟩
  have hE : EV σ τ rd inp (hgt (τ.2.1 12) (csg g s) (csg g s - csg g s)) 0 σ2 τ2 := by
    rw [Nat.sub_self, hσ2, hτ2]
    exact ⟨((EVf.rf σ).sF (Or.inr (Or.inr rfl)) _).sF (Or.inr (Or.inl rfl)) _, ((EVg.rf τ).sF (Or.inl rfl) _).sF (Or.inr rfl) _, htr, rfl, rfl, hr, rfl, by omega, fun i hi => by have : (hgt (τ.2.1 12) (csg g s) 0) = 0 := rfl; omega⟩
  have hcs : ∀ (F : Int32 → S9 → Prop), F (nI (csg g s)) σ2 → wp_X6_codeStart (nI s) σ2 F := by
    intro F q
    unfold wp_X6_codeStart
    refine ⟨fun z => ?_, fun z => ?_⟩
    · have e0 : s = 0 := nIj (by omega) (by omega) (b := 0) z
      have : csg g s = 0 := by unfold csg; rw [if_pos e0]
      rw [this] at q; exact q
    · have hs0 : 1 ≤ s := by
        rcases Nat.eq_zero_or_pos s with e | e
        · subst e; exact absurd rfl z
        · exact e
      rw [nI_sub1 hs0, nI_clamp (by omega)]
      refine ⟨pk_in (s - 1) 300 (by omega), ?_⟩
      have : σ2.2.1 9 (s - 1) = nI (csg g s) := by
        rw [hσ2]
        show σ.2.1 9 (s - 1) = _
        rw [(hP.cd (s - 1) (by omega)).1.1]
        unfold csg
        rw [if_neg (by omega)]
      rw [this]; exact q
  have hwo : ∀ (n : Nat) (Φ : S9 → Prop), lp_X3_workOut_b32 Φ n (nI (g 10 s)) (nI (csg g s)) σ2 → wp_X3_workOut (nI s) σ Φ := by
    intro n Φ q
    unfold wp_X3_workOut
    refine nm_e (nm_e ⟨pk_in s 300 (by omega), nm_e ?_⟩)
    rw [nI_clamp (by omega), show (sF (sF σ 24 0) 23 0).2.1 9 s = nI (g 10 s) from c1, ← hσ2]
    exact hcs _ ⟨n, q⟩
  have hmo : ∀ (n : Nat) (Ψ : Int32 → S9 → Prop), lp_X11_workOut_b20 Ψ n (nI (g 0 s)) (nI (csg g s)) τ2 → wp_X11_workOut (nI (g 0 s)) τ Ψ := by
    intro n Ψ q
    unfold wp_X11_workOut
    refine nm_e (nm_e ⟨pk_in (g 0 s) 1200 (by omega), nm_e ⟨n, ?_⟩⟩)
    rw [nI_clamp (by omega), show (sF (sF τ 24 (τ.1 23)) 25 0).2.1 8 (g 0 s) = nI (csg g s) from c2, ← hτ2]
    exact q
  have kd := (hP.ss s hs).1
  have k64 : σ.2.1 2 s = 64 ↔ τ.2.1 6 (g 0 s) = 164 := by
    rcases kd with ⟨e1, e2⟩ | ⟨e1, e2⟩ | ⟨e1, e2⟩ | ⟨e1, e2⟩ | ⟨e1, e2⟩ | ⟨e1, e2⟩ <;> (rw [e1, e2]; decide)
  have hds : ∀ (n : Nat) (Φ : S9 → Prop), lp_X3_workOut_b32 (fun σ1 => ((σ1.1 20) = 0 → vp_in (σ1.1 19) 300 ∧ ((σ1.2.1 2 ((σ1.1 19)).toNatClampNeg) = (64 : Int32) → vp_in (0 : Int32) 60 ∧ wp_X3_lookAtCell (σ1.2.1 23 ((0 : Int32)).toNatClampNeg) σ1 (fun σ2 => wp_X3_doStep_b45 Φ σ2)) ∧ (¬ (σ1.2.1 2 ((σ1.1 19)).toNatClampNeg) = (64 : Int32) → wp_X3_doStep_b45 Φ σ1)) ∧ (¬ (σ1.1 20) = 0 → wp_X3_doStep_b45 Φ σ1)) n (nI (g 10 s)) (nI (csg g s)) σ2 → wp_X3_doStep σ Φ := by
    intro n Φ q
    unfold wp_X3_doStep
    rw [h19]
    exact hwo n _ q
  have b45 : ∀ (Φ : S9 → Prop) (σ' : S9), ¬ σ'.1 20 = 0 → Φ σ' → wp_X3_doStep_b45 Φ σ' := by
    intro Φ σ' h q
    unfold wp_X3_doStep_b45
    exact br_f h q
  rcases ev_loop hP hB hs (g 10 s - csg g s) (csg g s) 0 σ2 τ2 (by omega) (Nat.le_refl _) hE with ⟨x', σ', τ', z1, z2, z3⟩ | ⟨r, z1, σ', τ', y1, y2, y3, z2, z3⟩
  · obtain ⟨e1, e2, e3, e4, e5, e6, e7, e8, e9⟩ := z1
    have f19 : σ'.1 19 = nI s := (e1.1 19 (by decide) (by decide) (by decide)).trans h19
    have f2 : σ'.2.1 2 = σ.2.1 2 := e1.2.1 2 (by decide)
    have f6 : τ'.2.1 6 = τ.2.1 6 := e2.2.1 6 (by decide)
    by_cases hk : σ.2.1 2 s = 64
    · have hk' := k64.mp hk
      have h0 : σ'.2.1 23 0 = τ'.2.1 25 0 := e9 0 (by rw [hk]; decide)
      by_cases hc : vp_in (σ'.2.1 23 0) 100
      · obtain ⟨p, hp, hpe⟩ := nz_in hc (by omega)
        have bad : ¬ (σ'.2.1 23 0 < 0 ∨ 100 ≤ σ'.2.1 23 0) := by
          rw [hpe]
          intro z
          rcases z with z | z
          · exact nI_pos (by omega) z
          · rw [show (100 : Int32) = nI 100 from rfl, nI_leI (by omega) (by omega)] at z; omega
        refine Or.inl ⟨x', σ', τ', ⟨e1, e2, e3, e4, e5, e6, e7, e8, e9⟩, fun _ => ⟨p, hp, hpe⟩, fun Φ q => hds _ Φ (z2 _ (br_t e3 ?_)), fun Ψ q => hmo _ Ψ (z3 Ψ ?_)⟩
        · rw [f19, nI_clamp (by omega), f2]
          refine ⟨pk_in s 300 (by omega), br_t hk ⟨pk_in 0 60 (by omega), ?_⟩⟩
          unfold wp_X3_lookAtCell
          exact (s_cellC (x := σ'.2.1 23 0) (fun _ => br_f (by decide) q) (fun _ z => absurd z bad)).1
        · rw [f6, hk', ← h0]
          exact br_t rfl ⟨pk_in 0 400 (by omega), (s_cellC (fun _ => br_f (by decide) q) (fun _ z => absurd z bad)).2⟩
      · have nex : ¬ ∃ p : Nat, p < 100 ∧ σ'.2.1 23 0 = nI p := fun ⟨p, hp, e⟩ => hc (by rw [e]; exact pk_in p 100 hp)
        refine Or.inr ⟨3, Or.inr (Or.inl rfl), sF σ' 20 3, τ', e1.sF (Or.inl rfl) _, rfl, e2, fun Φ q => hds _ Φ (z2 _ (br_t e3 ?_)), fun Ψ q => hmo _ Ψ (z3 Ψ ?_)⟩
        · rw [f19, nI_clamp (by omega), f2]
          refine ⟨pk_in s 300 (by omega), br_t hk ⟨pk_in 0 60 (by omega), ?_⟩⟩
          unfold wp_X3_lookAtCell
          refine (s_cellC (x := σ'.2.1 23 0) (fun z => absurd z nex) (fun _ _ => br_t rfl (nm_e ?_))).1
          exact b45 Φ _ (by show ¬ (3 : Int32) = 0; decide) q
        · rw [f6, hk', ← h0]
          exact br_t rfl ⟨pk_in 0 400 (by omega), (s_cellC (fun z => absurd z nex) (fun _ _ => br_t rfl q)).2⟩
    · have hk' : ¬ τ.2.1 6 (g 0 s) = 164 := fun z => hk (k64.mpr z)
      refine Or.inl ⟨x', σ', τ', ⟨e1, e2, e3, e4, e5, e6, e7, e8, e9⟩, fun z => absurd z hk, fun Φ q => hds _ Φ (z2 _ (br_t e3 ?_)), fun Ψ q => hmo _ Ψ (z3 Ψ ?_)⟩
      · rw [f19, nI_clamp (by omega), f2]
        exact ⟨pk_in s 300 (by omega), br_f hk q⟩
      · rw [f6]; exact br_f hk' q
  · have hne : ¬ r = 0 := by rcases z1 with rfl | rfl | rfl <;> decide
    have hn2 : ¬ σ'.1 20 = 0 := by rw [y2]; exact hne
    exact Or.inr ⟨r, z1, σ', τ', y1, y2, y3, fun Φ q => hds _ Φ (z2 _ (br_f hn2 (b45 Φ _ hn2 q))), fun Ψ q => hmo _ Ψ (z3 Ψ q)⟩
