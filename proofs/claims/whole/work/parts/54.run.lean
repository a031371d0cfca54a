/-! ===== many steps of both ===== -/
theorem RS_trouble {σ σ' τ τ' : S9} {g : GH} {S M pl rd inp n lim : Nat} {o : Nat → Nat} {r : Int32} (h : RS σ τ g S M pl rd inp n lim o) (hr : r = 2 ∨ r = 3 ∨ r = 4) (h1 : EVf σ σ') (h20 : σ'.1 20 = r) (h2 : EVg τ τ') : RS σ' (sF τ' 18 r) g S M pl rd inp n lim o := by
  obtain ⟨⟨a1, a2, a3, a4, a5, a6, a7, a8, a9, a10, a11, a12⟩, hp⟩ := h
  obtain ⟨e1, e2, e3, e4, e5, e6, e7⟩ := a2
  have g1 : ∀ k, k ≠ 20 ∧ k ≠ 23 ∧ k ≠ 24 → σ'.1 k = σ.1 k := fun k e => h1.1 k e.1 e.2.1 e.2.2
  have g2 : ∀ k, k ≠ 24 ∧ k ≠ 25 → τ'.1 k = τ.1 k := fun k e => h2.1 k e.1 e.2
  have b : ∀ k, k ≠ 23 → σ'.2.1 k = σ.2.1 k := h1.2.1
  have c : ∀ k, k ≠ 25 → τ'.2.1 k = τ.2.1 k := h2.2.1
  refine ⟨⟨PG_up a1 h1.pq h2.pq, ⟨(g1 22 (by decide)).trans e1, (g1 3 (by decide)).trans e2, (g2 22 (by decide)).trans e3, e4, ?_, ?_, ?_⟩, (g2 23 (by decide)).trans a3, a4, h20, ?_, (g1 18 (by decide)).trans a7, (g2 20 (by decide)).trans a8, FR_up a9 (b 22 (by decide)) (c 20 (by decide)) (c 6 (by decide)) (c 7 (by decide)), ?_, ?_, ?_⟩, ?_⟩
  · show ∀ i, i < inp → σ'.2.1 1 i = τ'.2.1 24 i
    rw [b 1 (by decide), c 24 (by decide)]; exact e5
  · show ∀ i, i < 26 → σ'.2.1 20 i = τ'.2.1 21 i
    rw [b 20 (by decide), c 21 (by decide)]; exact e6
  · show ∀ i, i < 100 → σ'.2.1 21 i = τ'.2.1 22 i
    rw [b 21 (by decide), c 22 (by decide)]; exact e7
  · exact Or.inr hr
  · show ∃ t : Nat, σ'.1 17 = nI t ∧ τ'.1 21 = nI t ∧ t ≤ lim
    rw [g1 17 (by decide), g2 21 (by decide)]; exact a10
  · show ∀ i, i < 200 → i < (σ'.1 17).toNatClampNeg → σ'.2.1 19 i = τ'.2.1 23 i
    rw [g1 17 (by decide), b 19 (by decide), c 23 (by decide)]; exact a11
  · show σ'.1 21 = τ'.1 19
    rw [g1 21 (by decide), g2 19 (by decide)]; exact a12
  · rcases hp with ⟨t, p1, p2, p3, p4⟩ | ⟨p1, p2, hh, p3, p4, p5⟩
    · exact Or.inl ⟨t, p1, (g1 19 (by decide)).trans p2, (g2 17 (by decide)).trans p3, p4⟩
    · exact Or.inr ⟨(g1 19 (by decide)).trans p1, p2, hh, p3, (g2 17 (by decide)).trans p4, by show τ'.2.1 6 hh = 13; rw [c 6 (by decide)]; exact p5⟩
theorem RS_done {σ τ : S9} {g : GH} {S M pl rd inp n lim : Nat} {o : Nat → Nat} (h : RS σ τ g S M pl rd inp n lim o) (a : Int32) : RS (sF σ 21 (σ.1 21 + a)) (sF τ 19 (τ.1 19 + a)) g S M pl rd inp n lim o := by
  obtain ⟨⟨a1, a2, a3, a4, a5, a6, a7, a8, a9, a10, a11, a12⟩, hp⟩ := h
  refine ⟨⟨a1, a2, a3, a4, a5, a6, a7, a8, a9, a10, a11, ?_⟩, hp⟩
  show σ.1 21 + a = τ.1 19 + a
  rw [a12]
theorem RS_lim {σ τ : S9} {g : GH} {S M pl rd inp n lim lim' : Nat} {o : Nat → Nat} (h : RS σ τ g S M pl rd inp n lim o) (hl : lim ≤ lim') : RS σ τ g S M pl rd inp n lim' o := ⟨RN_lim h.1 hl, h.2⟩
/-- what a run leaves alone -/
def KPb (σ σ' : S9) : Prop := (∀ k, k ≤ 16 → σ'.1 k = σ.1 k) ∧ ∀ k, k ≤ 18 → σ'.2.1 k = σ.2.1 k
def KPc (τ τ' : S9) : Prop := (∀ k, k ≤ 16 ∨ k = 22 → τ'.1 k = τ.1 k) ∧ ∀ k, k ≤ 19 ∨ k = 24 → τ'.2.1 k = τ.2.1 k
theorem KPb.trans {a b c : S9} (h1 : KPb a b) (h2 : KPb b c) : KPb a c := ⟨fun k hk => (h2.1 k hk).trans (h1.1 k hk), fun k hk => (h2.2 k hk).trans (h1.2 k hk)⟩
theorem KPc.trans {a b c : S9} (h1 : KPc a b) (h2 : KPc b c) : KPc a c := ⟨fun k hk => (h2.1 k hk).trans (h1.1 k hk), fun k hk => (h2.2 k hk).trans (h1.2 k hk)⟩
theorem run_loop {N : Nat} (hN : N ≤ 1000) : ∀ (d a : Nat) (σ τ : S9) (g : GH) (S M pl rd inp n lim : Nat) (o : Nat → Nat), a + d = N → RS σ τ g S M pl rd inp n lim o → lim + d < 1000000 →
    ∃ (a' rd' n' : Nat) (o' : Nat → Nat) (σ' τ' : S9), a' ≤ N ∧ RS σ' τ' g S M pl rd' inp n' (lim + d) o' ∧ KPb σ σ' ∧ KPc τ τ' ∧ (∀ Φ : Int32 → S9 → Prop, Φ (nI a') σ' → lp_X3_doSteps_b2 Φ (d + 2) (nI N) (nI a) σ) ∧ ∀ Ψ : Int32 → S9 → Prop, Ψ (nI a') τ' → lp_X11_run_b31 Ψ (d + 2) (nI N) (nI a) τ := by
  intro d
  induction d with
  | zero =>
    intro a σ τ g S M pl rd inp n lim o ha hR hl
    have e : a = N := by omega
    subst e
    refine ⟨a, rd, n, o, sF σ 21 (σ.1 21 + nI a), sF τ 19 (τ.1 19 + nI a), Nat.le_refl _, RS_done hR _, ⟨fun k hk => pk_un (by omega), fun _ _ => rfl⟩, ⟨fun k hk => pk_un (by omega), fun _ _ => rfl⟩, fun Φ q => ?_, fun Ψ q => ?_⟩
    · show bd_X3_doSteps_b2 _ Φ _ _ σ
      unfold bd_X3_doSteps_b2
      exact br_t (nI_le (Nat.le_refl _) (by omega)) (nm_e q)
    · show bd_X11_run_b31 _ Ψ _ _ τ
      unfold bd_X11_run_b31
      exact br_t (nI_le (Nat.le_refl _) (by omega)) (nm_e q)
  | succ d ih =>
    intro a σ τ g S M pl rd inp n lim o ha hR hl
    have hlt : ¬ nI N ≤ nI a := nI_ge (by omega) (by omega)
    have hM := hR.1.pg.ml
    have stop : ∀ (fu : Nat) (σ τ : S9) (n : Nat) (rd : Nat) (o : Nat → Nat), RS σ τ g S M pl rd inp n (lim + (d + 1)) o → (σ.1 19 = -1 ∨ ¬ τ.1 18 = 0) → ∃ (a' rd' n' : Nat) (o' : Nat → Nat) (σ' τ' : S9), a' ≤ N ∧ RS σ' τ' g S M pl rd' inp n' (lim + (d + 1)) o' ∧ KPb σ σ' ∧ KPc τ τ' ∧ (∀ Φ : Int32 → S9 → Prop, Φ (nI a') σ' → lp_X3_doSteps_b2 Φ (fu + 1) (nI N) (nI a) σ) ∧ ∀ Ψ : Int32 → S9 → Prop, Ψ (nI a') τ' → lp_X11_run_b31 Ψ (fu + 1) (nI N) (nI a) τ := by
      intro fu σ τ n rd o hR hst
      refine ⟨a, rd, n, o, sF σ 21 (σ.1 21 + nI a), sF τ 19 (τ.1 19 + nI a), by omega, RS_done hR _, ⟨fun k hk => pk_un (by omega), fun _ _ => rfl⟩, ⟨fun k hk => pk_un (by omega), fun _ _ => rfl⟩, fun Φ q => ?_, fun Ψ q => ?_⟩
      · show bd_X3_doSteps_b2 _ Φ _ _ σ
        unfold bd_X3_doSteps_b2
        refine br_f hlt (br_c (fun _ => nm_e q) (fun z => br_f ?_ (nm_e q)))
        rcases hst with e | e
        · exact absurd e z
        · rw [hR.1.tr]; exact e
      · show bd_X11_run_b31 _ Ψ _ _ τ
        unfold bd_X11_run_b31
        refine br_f hlt (br_c (fun z => ?_) (fun _ => nm_e q))
        rcases hst with e | e
        · rcases hR.2 with ⟨t, p1, p2, -⟩ | ⟨-, -, hh, p3, p4, p5⟩
          · rw [e] at p2
            have := hR.1.pg.sl
            exact absurd p2.symm (nIm1 (by omega))
          · rw [p4, nI_clamp (by omega), p5]
            exact ⟨pk_in hh 1200 (by omega), br_t rfl (nm_e q)⟩
        · exact absurd z e
    by_cases hst : σ.1 19 = -1 ∨ ¬ τ.1 18 = 0
    · exact stop (d + 2) σ τ n rd o (RS_lim hR (by omega)) hst
    · have h19n : ¬ σ.1 19 = -1 := fun z => hst (Or.inl z)
      have h18 : τ.1 18 = 0 := Classical.byContradiction fun z => hst (Or.inr z)
      have h20 : σ.1 20 = 0 := hR.1.tr.trans h18
      obtain ⟨s, p1, p2, p3, p4⟩ : ∃ t : Nat, t < S ∧ σ.1 19 = nI t ∧ τ.1 17 = nI (g 0 t) ∧ g 2 t = o n := by
        rcases hR.2 with p | ⟨p, -⟩
        · exact p
        · exact absurd p h19n
      have hgm := hR.1.pg.gm s p1
      have kd := (hR.1.pg.ss s p1).1
      have n13 : ¬ τ.2.1 6 (g 0 s) = 13 := by
        rcases kd with ⟨-, e⟩ | ⟨-, e⟩ | ⟨-, e⟩ | ⟨-, e⟩ | ⟨-, e⟩ | ⟨-, e⟩ <;> (rw [e]; decide)
      have cls : ∀ (fu : Nat) (Φ : Int32 → S9 → Prop), wp_X3_doStep σ (fun σ4 => ((σ4.1 20) = 0 → ∀ x5 : Int32, x5 = nI a + 1 → lp_X3_doSteps_b2 Φ fu (nI N) x5 σ4) ∧ (¬ (σ4.1 20) = 0 → lp_X3_doSteps_b2 Φ fu (nI N) (nI a) σ4)) → lp_X3_doSteps_b2 Φ (fu + 1) (nI N) (nI a) σ := by
        intro fu Φ q
        show bd_X3_doSteps_b2 _ Φ _ _ σ
        unfold bd_X3_doSteps_b2
        exact br_f hlt (br_f h19n (br_t h20 q))
      have mdl : ∀ (fu : Nat) (Ψ : Int32 → S9 → Prop), wp_X11_workOut (τ.1 17) τ (fun r5 σ4 => ∀ σ5 : S9, σ5 = sF σ4 18 r5 → ((σ5.1 18) = 0 → ∀ σ6 : S9, σ6 = sF σ5 23 (σ5.1 24) → wp_X11_effect (σ6.1 17) σ6 (fun σ7 => wp_X11_settle σ7 (fun σ8 => ∀ x7 : Int32, x7 = nI a + 1 → lp_X11_run_b31 Ψ fu (nI N) x7 σ8))) ∧ (¬ (σ5.1 18) = 0 → lp_X11_run_b31 Ψ fu (nI N) (nI a) σ5)) → lp_X11_run_b31 Ψ (fu + 1) (nI N) (nI a) τ := by
        intro fu Ψ q
        show bd_X11_run_b31 _ Ψ _ _ τ
        unfold bd_X11_run_b31
        refine br_f hlt (br_t h18 ?_)
        have e6 : τ.2.1 6 (τ.1 17).toNatClampNeg = τ.2.1 6 (g 0 s) := by rw [p3, nI_clamp (by omega)]
        rw [e6]
        exact ⟨by rw [p3]; exact pk_in (g 0 s) 1200 (by omega), br_f n13 q⟩
      rcases one_step hR.1 (by omega) h18 p1 p2 p3 p4 with ⟨n', rd', o', σ', τ', r1, r2, r3, r4, r5, r6, r7, r8, r9, r10⟩ | ⟨r, r1, σ', τ', y1, y2, y3, r2, r3⟩
      · obtain ⟨a2, rd2, n2, o2, σ2, τ2, z1, z2, z3, z4, z5, z6⟩ := ih (a + 1) σ' τ' g S M pl rd' inp n' (lim + 1) o' (by omega) r1 (by omega)
        rw [show lim + 1 + d = lim + (d + 1) by omega] at z2
        refine ⟨a2, rd2, n2, o2, σ2, τ2, z1, z2, KPb.trans ⟨r5, r6⟩ z3, KPc.trans ⟨r7, r8⟩ z4, fun Φ q => cls (d + 2) Φ (r9 _ (br_t r2 ?_)), fun Ψ q => mdl (d + 2) Ψ (r10 _ _ ?_)⟩
        · intro x5 e5
          rw [e5, nI_1]; exact z5 Φ q
        · intro x7 e7
          rw [e7, nI_1]; exact z6 Ψ q
      · -- trouble
        have hn0 : ¬ r = 0 := by rcases r1 with e | e | e <;> (rw [e]; decide)
        have hR' := RS_trouble (RS_lim hR (show lim ≤ lim + (d + 1) by omega)) r1 y1 y2 y3
        obtain ⟨a2, rd2, n2, o2, σ2, τ2, z1, z2, z3, z4, z5, z6⟩ := stop (d + 1) σ' (sF τ' 18 r) n rd o hR' (Or.inr hn0)
        refine ⟨a2, rd2, n2, o2, σ2, τ2, z1, z2, KPb.trans ⟨fun k hk => y1.1 k (by omega) (by omega) (by omega), fun k hk => y1.2.1 k (by omega)⟩ z3, KPc.trans (b := sF τ' 18 r) ⟨fun k hk => (pk_un (by omega)).trans (y3.1 k (by omega) (by omega)), fun k hk => y3.2.1 k (by omega)⟩ z4, fun Φ q => cls (d + 2) Φ (r2 _ (br_f (by rw [y2]; exact hn0) (z5 Φ q))), fun Ψ q => mdl (d + 2) Ψ (r3 _ (nm_e (br_f hn0 (z6 Ψ q))))⟩
