/-! ===== both sides between calls ===== -/
def TX (σ τ : S9) : Prop := ∃ L : Nat, σ.1 2 = nI L ∧ τ.1 1 = nI L ∧ σ.2.1 0 = τ.2.1 0 ∧ TextOk (σ.2.1 0) L
def INP (σ τ : S9) (inp : Nat) : Prop := σ.1 3 = nI inp ∧ τ.1 22 = nI inp ∧ inp ≤ 300 ∧ ∀ i, i < inp → σ.2.1 1 i = τ.2.1 24 i
def PRO (σ τ : S9) (g : GH) (S M pl np : Nat) : Prop := σ.1 0 = 1 ∧ τ.1 10 = 1 ∧ PG σ.2.1 τ.2.1 g S M pl ∧ σ.1 4 = nI S ∧ τ.1 8 = nI S ∧ σ.1 5 = nI np ∧ τ.1 13 = nI np ∧ τ.1 11 = nI M
def RR (σ τ : S9) (lim : Nat) : Prop := TX σ τ ∧ (∃ n : Nat, σ.1 13 = nI n) ∧ ∃ inp : Nat, INP σ τ inp ∧ ((σ.1 0 = 0 ∧ τ.1 10 = 0 ∧ σ.1 1 = 0 ∧ τ.1 16 = 0) ∨ ∃ (g : GH) (S M pl np : Nat), PRO σ τ g S M pl np ∧ ((σ.1 1 = 0 ∧ τ.1 16 = 0) ∨ (σ.1 1 = 1 ∧ τ.1 16 = 1 ∧ ∃ (rd n : Nat) (o : Nat → Nat), RS σ τ g S M pl rd inp n lim o)))
theorem RR_thrown {σ τ : S9} {lim : Nat} (h : RR σ τ lim) (v : Int32) : RR σ (sF τ 0 v) lim := h
theorem RR_lim {σ τ : S9} {lim lim' : Nat} (h : RR σ τ lim) (hl : lim ≤ lim') : RR σ τ lim' := by
  obtain ⟨h1, h2, inp, h3, h4⟩ := h
  refine ⟨h1, h2, inp, h3, ?_⟩
  rcases h4 with h4 | ⟨g, S, M, pl, np, h4, h5⟩
  · exact Or.inl h4
  · refine Or.inr ⟨g, S, M, pl, np, h4, ?_⟩
    rcases h5 with h5 | ⟨h5, h6, rd, n, o, h7⟩
    · exact Or.inl h5
    · exact Or.inr ⟨h5, h6, rd, n, o, RS_lim h7 hl⟩
theorem RR_16 {σ τ : S9} {lim : Nat} (h : RR σ τ lim) : (σ.1 1 = 0 ∧ τ.1 16 = 0) ∨ (σ.1 1 = 1 ∧ τ.1 16 = 1 ∧ ∃ (g : GH) (S M pl np rd inp n : Nat) (o : Nat → Nat), PRO σ τ g S M pl np ∧ INP σ τ inp ∧ RS σ τ g S M pl rd inp n lim o) := by
  obtain ⟨-, -, inp, h3, h4⟩ := h
  rcases h4 with h4 | ⟨g, S, M, pl, np, h4, h5⟩
  · exact Or.inl ⟨h4.2.2.1, h4.2.2.2⟩
  · rcases h5 with h5 | ⟨h5, h6, rd, n, o, h7⟩
    · exact Or.inl h5
    · exact Or.inr ⟨h5, h6, g, S, M, pl, np, rd, inp, n, o, h4, h3, h7⟩
/-- a call answers alike on both sides, or throws alike -/
def OKC (lim : Nat) (P : (Int32 → S9 → Prop) → (Int32 → S9 → Prop) → Prop) (Q : (Int32 → S9 → Prop) → Prop) : Prop :=
  (∃ (r : Int32) (σ' τ' : S9), RR σ' τ' lim ∧ τ'.1 0 = 0 ∧ (∀ Φ Θ : Int32 → S9 → Prop, Φ r σ' → P Φ Θ) ∧ ∀ Ψ : Int32 → S9 → Prop, Ψ r τ' → Q Ψ) ∨
  ∃ (e r : Int32) (σ' τ' : S9), (e = 1 ∨ e = 2) ∧ RR σ' τ' lim ∧ τ'.1 0 = e ∧ (∀ Φ Θ : Int32 → S9 → Prop, Θ e σ' → P Φ Θ) ∧ ∀ Ψ : Int32 → S9 → Prop, Ψ r τ' → Q Ψ
theorem s_goes0 {τ : S9} {b : Int32} {Ψ : Int32 → S9 → Prop} (k : Ψ 0 (sF τ 0 1)) : wp_X11_goes 0 b τ Ψ := by
  unfold wp_X11_goes wp_X11_goes_b18
  exact br_t rfl (nm_e (br_f (by show ¬ (1 : Int32) = 0; decide) k))
theorem s_goes2 {τ : S9} {Ψ : Int32 → S9 → Prop} (k : Ψ 0 (sF τ 0 2)) : wp_X11_goes 1 0 τ Ψ := by
  unfold wp_X11_goes wp_X11_goes_b18
  exact br_f (by decide) (br_t rfl (nm_e (br_f (by show ¬ (2 : Int32) = 0; decide) k)))
theorem s_goes1 {τ : S9} {Ψ : Int32 → S9 → Prop} (k : Ψ 1 (sF τ 0 0)) : wp_X11_goes 1 1 τ Ψ := by
  unfold wp_X11_goes wp_X11_goes_b18
  exact br_f (by decide) (br_f (by decide) (nm_e (br_t rfl k)))
/-! run -/
def wt_run (a : Int32) (σ : S9) (Φ Θ : Int32 → S9 → Prop) : Prop := (a < 0 → Θ 1 σ) ∧ (¬ a < 0 → (1000 < a → Θ 1 σ) ∧ (¬ 1000 < a → (σ.1 1 = 0 → Θ 2 σ) ∧ (¬ σ.1 1 = 0 → wp_X3_doSteps a σ Φ)))
theorem k_run {σ τ : S9} {lim : Nat} (a : Int32) (h : RR σ τ lim) (hl : lim + 1000 < 1000000) : OKC (lim + 1000) (wt_run a σ) (wp_X11_run a τ) := by
  have hb : ∀ (e : Int32), ∀ Ψ : Int32 → S9 → Prop, Ψ 0 (sF τ 0 1) → wp_X11_run_b16 Ψ a τ := by
    intro e Ψ k
    unfold wp_X11_run_b16 wp_X11_run_b17
    exact s_goes0 (br_t rfl k)
  rcases pk_ix a (n := 1001) (by omega) with q | q | ⟨N, hN, q⟩
  · refine Or.inr ⟨1, 0, σ, sF τ 0 1, Or.inl rfl, RR_lim (RR_thrown h 1) (by omega), rfl, fun Φ Θ k => br_t q k, fun Ψ k => ?_⟩
    unfold wp_X11_run
    exact br_t q (hb 0 Ψ k)
  · have e1 : ¬ a < 0 := fun z => by
      have : nI 1001 < 0 := Int32.lt_of_le_of_lt q z
      exact nI_pos (by omega) this
    have e2 : 1000 < a := Int32.lt_of_lt_of_le (show (1000 : Int32) < nI 1001 by decide) q
    refine Or.inr ⟨1, 0, σ, sF τ 0 1, Or.inl rfl, RR_lim (RR_thrown h 1) (by omega), rfl, fun Φ Θ k => br_f e1 (br_t e2 k), fun Ψ k => ?_⟩
    unfold wp_X11_run
    exact br_f e1 (br_t e2 (hb 0 Ψ k))
  · have e1 : ¬ a < 0 := by rw [q]; exact nI_pos (by omega)
    have e2 : ¬ 1000 < a := by rw [q, show (1000 : Int32) = nI 1000 from rfl, nI_ltI (by omega) (by omega)]; omega
    rcases RR_16 h with ⟨r1, r2⟩ | ⟨r1, r2, g, S, M, pl, np, rd, inp, n, o, r3, r4, r5⟩
    · refine Or.inr ⟨2, 0, σ, sF τ 0 2, Or.inr rfl, RR_lim (RR_thrown h 2) (by omega), rfl, fun Φ Θ k => br_f e1 (br_f e2 (br_t r1 k)), fun Ψ k => ?_⟩
      unfold wp_X11_run wp_X11_run_b17
      rw [r2]
      exact br_f e1 (br_f e2 (s_goes2 (br_t rfl k)))
    · have r5' : RS σ (sF τ 0 0) g S M pl rd inp n lim o := r5
      obtain ⟨a', rd', n', o', σ', τ', z1, z2, z3, z4, z5, z6⟩ := run_loop (N := N) (by omega) N 0 σ (sF τ 0 0) g S M pl rd inp n lim o (by omega) r5' (by omega)
      have z2' := RS_lim z2 (show lim + N ≤ lim + 1000 by omega)
      have k1 : ∀ k, k ≤ 16 → σ'.1 k = σ.1 k := z3.1
      have k2 : ∀ k, k ≤ 18 → σ'.2.1 k = σ.2.1 k := z3.2
      have k3 : ∀ k, (k ≤ 16 ∧ k ≠ 0) ∨ k = 22 → τ'.1 k = τ.1 k := fun k hk => (z4.1 k (by omega)).trans (pk_un (by omega))
      have k4 : ∀ k, k ≤ 19 ∨ k = 24 → τ'.2.1 k = τ.2.1 k := z4.2
      refine Or.inl ⟨nI a', σ', τ', ?_, z4.1 0 (by omega), fun Φ Θ k => br_f e1 (br_f e2 (br_f (by rw [r1]; decide) ?_)), fun Ψ k => ?_⟩
      · obtain ⟨⟨L, t1, t2, t3, t4⟩, ⟨w, hw⟩, -⟩ := h
        obtain ⟨p1, p2, p3, p4, p5, p6, p7, p8⟩ := r3
        obtain ⟨u1, u2, u3, u4⟩ := r4
        refine ⟨⟨L, (k1 2 (by omega)).trans t1, (k3 1 (by omega)).trans t2, by rw [k2 0 (by omega), k4 0 (by omega)]; exact t3, by rw [k2 0 (by omega)]; exact t4⟩, ⟨w, (k1 13 (by omega)).trans hw⟩, inp, ⟨(k1 3 (by omega)).trans u1, (k3 22 (by omega)).trans u2, u3, by rw [k2 1 (by omega), k4 24 (by omega)]; exact u4⟩, Or.inr ⟨g, S, M, pl, np, ⟨(k1 0 (by omega)).trans p1, (k3 10 (by omega)).trans p2, z2'.1.pg, (k1 4 (by omega)).trans p4, (k3 8 (by omega)).trans p5, (k1 5 (by omega)).trans p6, (k3 13 (by omega)).trans p7, (k3 11 (by omega)).trans p8⟩, Or.inr ⟨(k1 1 (by omega)).trans r1, (k3 16 (by omega)).trans r2, rd', n', o', z2'⟩⟩⟩
      · unfold wp_X3_doSteps
        refine nm_e ⟨N + 2, ?_⟩
        rw [q]; exact z5 Φ k
      · unfold wp_X11_run wp_X11_run_b17
        rw [r2]
        refine br_f e1 (br_f e2 (s_goes1 (br_f (by decide) (nm_e ⟨N + 2, ?_⟩))))
        rw [q]; exact z6 Ψ k
/-! state -/
def wt_state (a : Int32) (σ : S9) (Φ Θ : Int32 → S9 → Prop) : Prop := (a < 0 → Θ 1 σ) ∧ (¬ a < 0 → (4 < a → Θ 1 σ) ∧ (¬ 4 < a → (σ.1 1 = 0 → Θ 2 σ) ∧ (¬ σ.1 1 = 0 → (a = 0 → wp_X3_condition σ Φ) ∧ (¬ a = 0 → (a = 1 → Φ (σ.1 21) σ) ∧ (¬ a = 1 → (a = 2 → Φ (σ.1 17) σ) ∧ (¬ a = 2 → (a = 3 → Φ (σ.1 22) σ) ∧ (¬ a = 3 → wp_X3_place σ Φ)))))))
theorem k_state {σ τ : S9} {lim : Nat} (a : Int32) (h : RR σ τ lim) : OKC lim (wt_state a σ) (wp_X11_state a τ) := by
  have hb : ∀ Ψ : Int32 → S9 → Prop, Ψ 0 (sF τ 0 1) → wp_X11_state_b14 Ψ a τ := by
    intro Ψ k
    unfold wp_X11_state_b14 wp_X11_state_b15
    exact s_goes0 (br_t rfl k)
  rcases pk_ix a (n := 5) (by omega) with q | q | ⟨N, hN, q⟩
  · refine Or.inr ⟨1, 0, σ, sF τ 0 1, Or.inl rfl, RR_thrown h 1, rfl, fun Φ Θ k => br_t q k, fun Ψ k => ?_⟩
    unfold wp_X11_state
    exact br_t q (hb Ψ k)
  · have e1 : ¬ a < 0 := fun z => nI_pos (n := 5) (by omega) (Int32.lt_of_le_of_lt q z)
    have e2 : 4 < a := Int32.lt_of_lt_of_le (show (4 : Int32) < nI 5 by decide) q
    refine Or.inr ⟨1, 0, σ, sF τ 0 1, Or.inl rfl, RR_thrown h 1, rfl, fun Φ Θ k => br_f e1 (br_t e2 k), fun Ψ k => ?_⟩
    unfold wp_X11_state
    exact br_f e1 (br_t e2 (hb Ψ k))
  · have e1 : ¬ a < 0 := by rw [q]; exact nI_pos (by omega)
    have e2 : ¬ 4 < a := by rw [q, show (4 : Int32) = nI 4 from rfl, nI_ltI (by omega) (by omega)]; omega
    rcases RR_16 h with ⟨r1, r2⟩ | ⟨r1, r2, g, S, M, pl, np, rd, inp, n, o, r3, r4, r5⟩
    · refine Or.inr ⟨2, 0, σ, sF τ 0 2, Or.inr rfl, RR_thrown h 2, rfl, fun Φ Θ k => br_f e1 (br_f e2 (br_t r1 k)), fun Ψ k => ?_⟩
      unfold wp_X11_state wp_X11_state_b15
      rw [r2]
      exact br_f e1 (br_f e2 (s_goes2 (br_t rfl k)))
    · obtain ⟨x1, x2, x3, x4, x5, x6, x7, x8, x9, ⟨t, t1, t2, t3⟩, x11, x12⟩ := r5.1
      have hM := x1.ml
      have hS := x1.sl
      -- is it ended
      have hpos : ∃ (hh : Nat) (en : Int32), hh < 1200 ∧ τ.1 17 = nI hh ∧ ((en = 1 ∧ τ.2.1 6 hh = 13 ∧ σ.1 19 = -1) ∨ (en = 0 ∧ ¬ τ.2.1 6 hh = 13 ∧ ∃ s : Nat, s < S ∧ σ.1 19 = nI s ∧ hh = g 0 s)) := by
        rcases r5.2 with ⟨s, p1, p2, p3, p4⟩ | ⟨p1, p2, hh, p3, p4, p5⟩
        · have hgm := x1.gm s p1
          refine ⟨g 0 s, 0, by omega, p3, Or.inr ⟨rfl, ?_, s, p1, p2, rfl⟩⟩
          rcases (x1.ss s p1).1 with ⟨-, e⟩ | ⟨-, e⟩ | ⟨-, e⟩ | ⟨-, e⟩ | ⟨-, e⟩ | ⟨-, e⟩ <;> (rw [e]; decide)
        · exact ⟨hh, 1, by omega, p4, Or.inl ⟨rfl, p5, p1⟩⟩
      obtain ⟨hh, en, h1, h2, h3⟩ := hpos
      have mdl : ∀ Ψ : Int32 → S9 → Prop, wp_X11_state_b46 Ψ a en (sF τ 0 0) → wp_X11_state a τ Ψ := by
        intro Ψ k
        unfold wp_X11_state wp_X11_state_b15
        rw [r2]
        refine br_f e1 (br_f e2 (s_goes1 (br_f (by decide) ?_)))
        rw [show (sF τ 0 0).1 17 = nI hh from h2, nI_clamp (by omega), show (sF τ 0 0).2.1 6 hh = τ.2.1 6 hh from rfl]
        refine ⟨pk_in hh 1200 h1, ?_⟩
        rcases h3 with ⟨z1, z2, -⟩ | ⟨z1, z2, -⟩
        · subst z1; exact br_t z2 k
        · subst z1; exact br_f z2 k
      have cls : ∀ Φ Θ : Int32 → S9 → Prop, ((a = 0 → wp_X3_condition σ Φ) ∧ (¬ a = 0 → (a = 1 → Φ (σ.1 21) σ) ∧ (¬ a = 1 → (a = 2 → Φ (σ.1 17) σ) ∧ (¬ a = 2 → (a = 3 → Φ (σ.1 22) σ) ∧ (¬ a = 3 → wp_X3_place σ Φ))))) → wt_state a σ Φ Θ := fun Φ Θ k => br_f e1 (br_f e2 (br_f (by rw [r1]; decide) k))
      have fin : ∀ r : Int32, (∀ Φ : Int32 → S9 → Prop, Φ r σ → ((a = 0 → wp_X3_condition σ Φ) ∧ (¬ a = 0 → (a = 1 → Φ (σ.1 21) σ) ∧ (¬ a = 1 → (a = 2 → Φ (σ.1 17) σ) ∧ (¬ a = 2 → (a = 3 → Φ (σ.1 22) σ) ∧ (¬ a = 3 → wp_X3_place σ Φ)))))) → (∀ Ψ : Int32 → S9 → Prop, Ψ r (sF τ 0 0) → wp_X11_state_b46 Ψ a en (sF τ 0 0)) → OKC lim (wt_state a σ) (wp_X11_state a τ) := fun r c1 c2 => Or.inl ⟨r, σ, sF τ 0 0, RR_thrown h 0, rfl, fun Φ Θ k => cls Φ Θ (c1 Φ k), fun Ψ k => mdl Ψ (c2 Ψ k)⟩
      have hN5 : N = 0 ∨ N = 1 ∨ N = 2 ∨ N = 3 ∨ N = 4 := by omega
      rcases hN5 with rfl | rfl | rfl | rfl | rfl
      · have ea : a = 0 := q
        by_cases h18 : τ.1 18 = 0
        · refine fin en (fun Φ k => br_t ea ?_) (fun Ψ k => ?_)
          · unfold wp_X3_condition
            rw [x5, h18]
            refine br_t rfl ?_
            rcases h3 with ⟨z1, z2, z3⟩ | ⟨z1, z2, s, z3, z4, z5⟩
            · subst z1; exact br_t z3 k
            · subst z1; exact br_f (by rw [z4]; exact nIm1 (by omega)) k
          · unfold wp_X11_state_b46
            rw [show (sF τ 0 0).1 18 = 0 from h18]
            refine br_t ea (br_t (by decide) ?_)
            rcases h3 with ⟨z1, -⟩ | ⟨z1, -⟩
            · subst z1; exact br_f (by decide) k
            · subst z1; exact br_t rfl k
        · have hgt : ¬ τ.1 18 ≤ 0 := by
            rcases x6 with e | e | e | e
            · exact absurd e h18
            all_goals (rw [e]; decide)
          refine fin (τ.1 18) (fun Φ k => br_t ea ?_) (fun Ψ k => ?_)
          · unfold wp_X3_condition
            rw [x5]
            exact br_f h18 k
          · unfold wp_X11_state_b46
            exact br_t ea (br_f hgt k)
      · have ea : a = 1 := q
        refine fin (σ.1 21) (fun Φ k => br_f (by rw [ea]; decide) (br_t ea k)) (fun Ψ k => ?_)
        unfold wp_X11_state_b46
        rw [x12] at k
        exact br_f (by rw [ea]; decide) (br_t ea k)
      · have ea : a = 2 := q
        refine fin (nI t) (fun Φ k => br_f (by rw [ea]; decide) (br_f (by rw [ea]; decide) (br_t ea (by rw [t1]; exact k)))) (fun Ψ k => ?_)
        unfold wp_X11_state_b46
        exact br_f (by rw [ea]; decide) (br_f (by rw [ea]; decide) (br_t ea (by rw [show (sF τ 0 0).1 21 = nI t from t2]; exact k)))
      · have ea : a = 3 := q
        refine fin (nI rd) (fun Φ k => br_f (by rw [ea]; decide) (br_f (by rw [ea]; decide) (br_f (by rw [ea]; decide) (br_t ea (by rw [x2.r22]; exact k))))) (fun Ψ k => ?_)
        unfold wp_X11_state_b46
        exact br_f (by rw [ea]; decide) (br_f (by rw [ea]; decide) (br_f (by rw [ea]; decide) (br_t ea (by rw [show (sF τ 0 0).1 23 = nI rd from x3]; exact k))))
      · have ea : a = 4 := q
        rcases h3 with ⟨z1, z2, z3⟩ | ⟨z1, z2, s, z3, z4, z5⟩
        · subst z1
          refine fin (-1) (fun Φ k => br_f (by rw [ea]; decide) (br_f (by rw [ea]; decide) (br_f (by rw [ea]; decide) (br_f (by rw [ea]; decide) ?_)))) (fun Ψ k => ?_)
          · unfold wp_X3_place
            exact br_t z3 k
          · unfold wp_X11_state_b46
            exact br_f (by rw [ea]; decide) (br_f (by rw [ea]; decide) (br_f (by rw [ea]; decide) (br_f (by rw [ea]; decide) (br_f (by decide) k))))
        · subst z1
          obtain ⟨-, y1, y2, -⟩ := x1.ss s z3
          refine fin (nI (g 9 s)) (fun Φ k => br_f (by rw [ea]; decide) (br_f (by rw [ea]; decide) (br_f (by rw [ea]; decide) (br_f (by rw [ea]; decide) ?_)))) (fun Ψ k => ?_)
          · unfold wp_X3_place
            rw [z4, nI_clamp (by omega), y1]
            exact br_f (nIm1 (by omega)) ⟨pk_in s 300 (by omega), k⟩
          · unfold wp_X11_state_b46
            refine br_f (by rw [ea]; decide) (br_f (by rw [ea]; decide) (br_f (by rw [ea]; decide) (br_f (by rw [ea]; decide) (br_t rfl ?_))))
            rw [show (sF τ 0 0).1 17 = nI hh from h2, nI_clamp (by omega), show (sF τ 0 0).2.1 10 hh = nI (g 9 s) from by rw [z5]; exact y2]
            exact ⟨pk_in hh 1200 h1, k⟩
