/-! ===== rows that are filled ===== -/
def fl (f : Nat → Int32) (v : Int32) (n : Nat) : Nat → Int32 := fun i => if i < n then v else f i
theorem fl_0 (f : Nat → Int32) (v : Int32) : fl f v 0 = f := by funext i; exact if_neg (Nat.not_lt_zero _)
theorem fl_s (f : Nat → Int32) (v : Int32) (n : Nat) : upd (fl f v n) n v = fl f v (n + 1) := by
  funext i
  show (if i = n then v else if i < n then v else f i) = if i < n + 1 then v else f i
  by_cases e : i = n
  · rw [if_pos e, if_pos (by omega)]
  · rw [if_neg e]
    by_cases e2 : i < n
    · rw [if_pos e2, if_pos (by omega)]
    · rw [if_neg e2, if_neg (by omega)]
theorem fl_in {f : Nat → Int32} {v : Int32} {n i : Nat} (h : i < n) : fl f v n i = v := if_pos h
theorem sA_sA (σ : S9) (k : Nat) (x y : Nat → Int32) : sA (sA σ k x) k y = sA σ k y := by
  unfold sA
  exact Prod.ext rfl (Prod.ext (vup_vup _ _ _ _) rfl)
theorem sA_self (σ : S9) (k : Nat) : sA σ k (σ.2.1 k) = σ := by
  unfold sA
  refine Prod.ext rfl (Prod.ext ?_ rfl)
  funext j
  show va_up σ.2.1 k (σ.2.1 k) j = σ.2.1 j
  by_cases ej : j = k
  · rw [ej, vup_self]
  · rw [vup_ne ej]
theorem sA_21k (σ : S9) (k : Nat) (x : Nat → Int32) : (sA σ k x).2.1 k = x := vup_self
/-- a loop that fills a row, for any loop of that form -/
theorem fill_any {W : Nat → Int32 → S9 → Prop} {σ : S9} {k N : Nat} {v : Int32} (hN : N < 2000) (hx : ∀ n, W (n + 1) (nI N) (sA σ k (fl (σ.2.1 k) v N))) (hs : ∀ n a, a < N → W n (nI (a + 1)) (sA (sA σ k (fl (σ.2.1 k) v a)) k (upd ((sA σ k (fl (σ.2.1 k) v a)).2.1 k) (nI a).toNatClampNeg v)) → W (n + 1) (nI a) (sA σ k (fl (σ.2.1 k) v a))) : W (N + 1) 0 σ := by
  have key : ∀ d a, a + d = N → W (d + 1) (nI a) (sA σ k (fl (σ.2.1 k) v a)) := by
    intro d
    induction d with
    | zero =>
      intro a ha
      have e : a = N := by omega
      subst e; exact hx 0
    | succ d ih =>
      intro a ha
      refine hs (d + 1) a (by omega) ?_
      rw [sA_21k, nI_clamp (by omega), fl_s, sA_sA]
      exact ih (a + 1) (by omega)
  have := key N 0 (by omega)
  rw [fl_0, sA_self] at this
  exact this
theorem s_fill24 {σ : S9} {Φ : S9 → Prop} (k : Φ (sA σ 12 (fl (σ.2.1 12) (-1) 27))) : wp_J7_fill_53178_24 (-1) σ Φ := by
  unfold wp_J7_fill_53178_24
  refine nm_e (nm_e ⟨28, ?_⟩)
  refine fill_any (W := fun n a σ => lp_J7_fill_53178_24_b5 Φ n (-1) a 27 σ) (k := 12) (N := 27) (v := -1) (by omega) (fun n => ?_) (fun n a ha q => ?_)
  · show bd_J7_fill_53178_24_b5 _ Φ _ _ _ _
    unfold bd_J7_fill_53178_24_b5
    exact br_t (by decide) k
  · show bd_J7_fill_53178_24_b5 _ Φ _ _ _ _
    unfold bd_J7_fill_53178_24_b5
    refine br_f (nI_ge (b := 27) ha (by decide)) ⟨pk_in a 27 ha, nm_e (nm_e ?_)⟩
    rw [nI_1]; exact q
theorem s_fill32 {σ : S9} {Φ : S9 → Prop} (k : Φ (sA σ 20 (fl (σ.2.1 20) 0 26))) : wp_J7_fill_53178_32 0 σ Φ := by
  unfold wp_J7_fill_53178_32
  refine nm_e (nm_e ⟨27, ?_⟩)
  refine fill_any (W := fun n a σ => lp_J7_fill_53178_32_b5 Φ n 0 a 26 σ) (k := 20) (N := 26) (v := 0) (by omega) (fun n => ?_) (fun n a ha q => ?_)
  · show bd_J7_fill_53178_32_b5 _ Φ _ _ _ _
    unfold bd_J7_fill_53178_32_b5
    exact br_t (by decide) k
  · show bd_J7_fill_53178_32_b5 _ Φ _ _ _ _
    unfold bd_J7_fill_53178_32_b5
    refine br_f (nI_ge (b := 26) ha (by decide)) ⟨pk_in a 26 ha, nm_e (nm_e ?_)⟩
    rw [nI_1]; exact q
theorem s_fill33 {σ : S9} {Φ : S9 → Prop} (k : Φ (sA σ 21 (fl (σ.2.1 21) 0 100))) : wp_J7_fill_53178_33 0 σ Φ := by
  unfold wp_J7_fill_53178_33
  refine nm_e (nm_e ⟨101, ?_⟩)
  refine fill_any (W := fun n a σ => lp_J7_fill_53178_33_b5 Φ n 0 a 100 σ) (k := 21) (N := 100) (v := 0) (by omega) (fun n => ?_) (fun n a ha q => ?_)
  · show bd_J7_fill_53178_33_b5 _ Φ _ _ _ _
    unfold bd_J7_fill_53178_33_b5
    exact br_t (by decide) k
  · show bd_J7_fill_53178_33_b5 _ Φ _ _ _ _
    unfold bd_J7_fill_53178_33_b5
    refine br_f (nI_ge (b := 100) ha (by decide)) ⟨pk_in a 100 ha, nm_e (nm_e ?_)⟩
    rw [nI_1]; exact q
theorem s_start71 {τ : S9} {Φ : S9 → Prop} (k : wp_X11_settle (sA τ 22 (fl (τ.2.1 22) 0 100)) (fun σ1 => Φ σ1)) : lp_X11_start_b71 Φ 101 0 τ := by
  refine fill_any (W := fun n a σ => lp_X11_start_b71 Φ n a σ) (k := 22) (N := 100) (v := 0) (by omega) (fun n => ?_) (fun n a ha q => ?_)
  · show bd_X11_start_b71 _ Φ _ _
    unfold bd_X11_start_b71
    exact br_t (by decide) k
  · show bd_X11_start_b71 _ Φ _ _
    unfold bd_X11_start_b71
    refine br_f (nI_ge (b := 100) ha (by decide)) ⟨pk_in a 100 ha, nm_e (nm_e ?_)⟩
    rw [nI_1]; exact q
theorem s_start50 {τ : S9} {Φ : S9 → Prop} (k : wp_X11_settle (sA (sA τ 21 (fl (τ.2.1 21) 0 26)) 22 (fl (τ.2.1 22) 0 100)) (fun σ1 => Φ σ1)) : lp_X11_start_b50 Φ 27 0 τ := by
  refine fill_any (W := fun n a σ => lp_X11_start_b50 Φ n a σ) (k := 21) (N := 26) (v := 0) (by omega) (fun n => ?_) (fun n a ha q => ?_)
  · show bd_X11_start_b50 _ Φ _ _
    unfold bd_X11_start_b50
    exact br_t (by decide) (nm_e ⟨101, s_start71 k⟩)
  · show bd_X11_start_b50 _ Φ _ _
    unfold bd_X11_start_b50
    refine br_f (nI_ge (b := 26) ha (by decide)) ⟨pk_in a 26 ha, nm_e (nm_e ?_)⟩
    rw [nI_1]; exact q
/-! start -/
def wt_start (σ : S9) (Φ Θ : Int32 → S9 → Prop) : Prop := (σ.1 0 = 0 → Θ 1 σ) ∧ (¬ σ.1 0 = 0 → wp_X3_rewind σ (fun σ1 => ∀ σ2 : S9, σ2 = sF σ1 1 1 → Φ 0 σ2))
theorem settle0 {C : AR} {B : AR} {g : GH} {S M pl : Nat} (hP : PG B C g S M pl) {τ : S9} {x : Int32} {h : Nat} (hC : τ.2.1 = C) (h17 : τ.1 17 = nI h) (hl : LND C g S M h 26 x) :
    ∃ h' : Nat, ((∃ t : Nat, t < S ∧ x = nI t ∧ h' = g 0 t ∧ g 2 t = 26) ∨ (x = -1 ∧ h' < M ∧ C 6 h' = 13)) ∧ ∀ Ψ : S9 → Prop, Ψ (sF τ 17 (nI h')) → wp_X11_settle τ Ψ := by
  have hM := hP.ml
  obtain ⟨k, h', q1, q2⟩ := hl
  have hM' := JF_end q1
  have mdl : ¬ C 6 h' = 11 → ¬ C 6 h' = 12 → ∀ Ψ : S9 → Prop, Ψ (sF τ 17 (nI h')) → wp_X11_settle τ Ψ := by
    intro e1 e2 Ψ q
    refine ⟨1 + k, set_jf hM k h h' τ q1 hC h17 ?_⟩
    show bd_X11_settle_b0 _ Ψ _
    unfold bd_X11_settle_b0
    have hin : vp_in (nI h') 1200 := pk_in h' 1200 (by omega)
    rw [show (sF τ 17 (nI h')).1 17 = nI h' from rfl, nI_clamp (by omega), show (sF τ 17 (nI h')).2.1 = C from hC]
    exact ⟨hin, br_f e1 ⟨hin, br_f e2 q⟩⟩
  rcases q2 with ⟨t, t1, t2, t3, t4⟩ | ⟨t1, t2, t3⟩ | ⟨t1, t2, t3⟩
  · have kd := (hP.ss t t2).1
    rw [← t3] at kd
    have e : ¬ C 6 h' = 11 ∧ ¬ C 6 h' = 12 := by
      rcases kd with ⟨-, e2⟩ | ⟨-, e2⟩ | ⟨-, e2⟩ | ⟨-, e2⟩ | ⟨-, e2⟩ | ⟨-, e2⟩ <;> (rw [e2]; decide)
    exact ⟨h', Or.inl ⟨t, t2, t1, t3, t4⟩, mdl e.1 e.2⟩
  · omega
  · exact ⟨h', Or.inr ⟨t1, hM', t3⟩, mdl (by rw [t3]; decide) (by rw [t3]; decide)⟩
theorem k_start {σ τ : S9} {lim : Nat} (h : RR σ τ lim) : OKC lim (wt_start σ) (fun Ψ => wp_X11_start τ (fun τ' => Ψ 0 τ')) := by
  obtain ⟨hT, hW, inp, hI, hp⟩ := h
  rcases hp with ⟨p1, p2, p3, p4⟩ | ⟨g, S, M, pl, np, ⟨p1, p2, p3, p4, p5, p6, p7, p8⟩, -⟩
  · refine Or.inr ⟨1, 0, σ, sF τ 0 1, Or.inl rfl, ⟨hT, hW, inp, hI, Or.inl ⟨p1, p2, p3, p4⟩⟩, rfl, fun Φ Θ k => br_t p1 k, fun Ψ k => ?_⟩
    unfold wp_X11_start
    rw [p2]
    exact s_goes0 (br_t rfl k)
  · -- states behind the loops
    obtain ⟨τ8, hτ8⟩ : ∃ τ8, τ8 = sF (sF (sF (sF (sF (sF (sF (sF τ 0 0) 16 1) 17 0) 18 0) 19 0) 20 0) 21 0) 23 0 := ⟨_, rfl⟩
    obtain ⟨τ9, hτ9⟩ : ∃ τ9, τ9 = sA (sA τ8 21 (fl (τ8.2.1 21) 0 26)) 22 (fl (τ8.2.1 22) 0 100) := ⟨_, rfl⟩
    have hC9 : ∀ k, k ≠ 21 → k ≠ 22 → τ9.2.1 k = τ.2.1 k := fun k e1 e2 => by
      rw [hτ9, hτ8]
      show va_up (va_up τ.2.1 21 _) 22 _ k = _
      rw [vup_ne e2, vup_ne e1]
    obtain ⟨σ8, hσ8⟩ : ∃ σ8, σ8 = sF (sF (sF (sF (sF (sF (sF (sA (sA σ 20 (fl (σ.2.1 20) 0 26)) 21 (fl (σ.2.1 21) 0 100)) 17 0) 18 0) 19 (σ.2.1 12 26)) 20 0) 21 0) 22 0) 1 1 := ⟨_, rfl⟩
    have hB8 : ∀ k, k ≠ 20 → k ≠ 21 → σ8.2.1 k = σ.2.1 k := fun k e1 e2 => by
      rw [hσ8]
      show va_up (va_up σ.2.1 20 _) 21 _ k = _
      rw [vup_ne e2, vup_ne e1]
    have hS8 : ∀ k, k ≠ 1 → k ≤ 16 → σ8.1 k = σ.1 k := fun k e1 e2 => by
      rw [hσ8]
      show upd (upd (upd (upd (upd (upd (upd σ.1 17 _) 18 _) 19 _) 20 _) 21 _) 22 _) 1 _ k = _
      rw [pk_un e1, pk_un (by omega), pk_un (by omega), pk_un (by omega), pk_un (by omega), pk_un (by omega), pk_un (by omega)]
    have hS9 : ∀ k, k ≠ 0 → k ≤ 15 ∨ k = 22 → τ9.1 k = τ.1 k := fun k e1 e2 => by
      rw [hτ9, hτ8]
      show upd (upd (upd (upd (upd (upd (upd (upd τ.1 0 _) 16 _) 17 _) 18 _) 19 _) 20 _) 21 _) 23 _ k = _
      rw [pk_un (by omega), pk_un (by omega), pk_un (by omega), pk_un (by omega), pk_un (by omega), pk_un (by omega), pk_un (by omega), pk_un e1]
    have hP8 : PG σ8.2.1 τ9.2.1 g S M pl := PG_up p3 (PQB_rf (fun k hk => hB8 k (by omega) (by omega))) (PQC_rf (fun k hk => hC9 k (by omega) (by omega)))
    have h19 : σ8.1 19 = σ8.2.1 12 26 := by rw [hB8 12 (by decide) (by decide), hσ8]; rfl
    obtain ⟨h', hpos, hset⟩ := settle0 hP8 (τ := τ9) (x := σ8.2.1 12 26) (h := 0) rfl (by rw [hτ9, hτ8]; rfl) hP8.mn
    have hRS : RS σ8 (sF τ9 17 (nI h')) g S M pl 0 inp 0 lim (fun _ => 26) := by
      obtain ⟨u1, u2, u3, u4⟩ := hI
      refine ⟨⟨hP8, ⟨by rw [hσ8]; rfl, (hS8 3 (by decide) (by omega)).trans u1, (hS9 22 (by decide) (by omega)).trans u2, u3, ?_, fun i hi => ?_, fun i hi => ?_⟩, by rw [hτ9, hτ8]; rfl, by omega, by rw [hσ8, hτ9, hτ8]; rfl, Or.inl (by rw [hτ9, hτ8]; rfl), by rw [hσ8]; rfl, by rw [hτ9, hτ8]; rfl, ⟨rfl, fun i hi => by omega⟩, ⟨0, by rw [hσ8]; rfl, by rw [hτ9, hτ8]; rfl, by omega⟩, fun i hi hi2 => ?_, by rw [hσ8, hτ9, hτ8]; rfl⟩, ?_⟩
      · show ∀ i, i < inp → σ8.2.1 1 i = τ9.2.1 24 i
        rw [hB8 1 (by decide) (by decide), hC9 24 (by decide) (by decide)]; exact u4
      · rw [hσ8, hτ9, hτ8]
        show fl _ 0 26 i = fl _ 0 26 i
        rw [fl_in hi, fl_in hi]
      · rw [hσ8, hτ9, hτ8]
        show fl _ 0 100 i = fl _ 0 100 i
        rw [fl_in hi, fl_in hi]
      · rw [show σ8.1 17 = nI 0 from by rw [hσ8]; rfl, nI_clamp (by omega)] at hi2; omega
      · rcases hpos with ⟨t, t1, t2, t3, t4⟩ | ⟨t1, t2, t3⟩
        · exact Or.inl ⟨t, t1, h19.trans t2, by rw [← t3]; rfl, t4⟩
        · exact Or.inr ⟨h19.trans t1, rfl, h', t2, rfl, t3⟩
    obtain ⟨L, t1, t2, t3, t4⟩ := hT
    obtain ⟨wn, hwn⟩ := hW
    refine Or.inl ⟨0, σ8, sF τ9 17 (nI h'), ⟨⟨L, (hS8 2 (by decide) (by omega)).trans t1, (hS9 1 (by decide) (by omega)).trans t2, ?_, ?_⟩, ⟨wn, (hS8 13 (by decide) (by omega)).trans hwn⟩, inp, ⟨(hS8 3 (by decide) (by omega)).trans hI.1, (hS9 22 (by decide) (by omega)).trans hI.2.1, hI.2.2.1, hRS.1.eb.ia⟩, Or.inr ⟨g, S, M, pl, np, ⟨(hS8 0 (by decide) (by omega)).trans p1, (hS9 10 (by decide) (by omega)).trans p2, hP8, (hS8 4 (by decide) (by omega)).trans p4, (hS9 8 (by decide) (by omega)).trans p5, (hS8 5 (by decide) (by omega)).trans p6, (hS9 13 (by decide) (by omega)).trans p7, (hS9 11 (by decide) (by omega)).trans p8⟩, Or.inr ⟨by rw [hσ8]; rfl, by rw [hτ9, hτ8]; rfl, 0, 0, fun _ => 26, hRS⟩⟩⟩, by rw [hτ9, hτ8]; rfl, fun Φ Θ k => br_f (by rw [p1]; decide) ?_, fun Ψ k => ?_⟩
    · show σ8.2.1 0 = τ9.2.1 0
      rw [hB8 0 (by decide) (by decide), hC9 0 (by decide) (by decide)]; exact t3
    · rw [hB8 0 (by decide) (by decide)]; exact t4
    · unfold wp_X3_rewind
      refine s_fill32 (s_fill33 (nm_e (nm_e ⟨pk_in 26 27 (by omega), nm_e (nm_e (nm_e (nm_e (nm_e ?_))))⟩)))
      rw [hσ8] at k
      exact k
    · unfold wp_X11_start
      rw [p2]
      refine s_goes1 (br_f (by decide) (nm_e (nm_e (nm_e (nm_e (nm_e (nm_e (nm_e (nm_e ⟨27, s_start50 ?_⟩)))))))))
      rw [← hτ8, ← hτ9]
      exact hset _ k
/-! the calls that only look -/
def wt_output (a : Int32) (σ : S9) (Φ Θ : Int32 → S9 → Prop) : Prop := (σ.1 1 = 0 → Θ 1 σ) ∧ (¬ σ.1 1 = 0 → wp_X5_keeps a σ (fun r σ1 => (r = 0 → Θ 1 σ1) ∧ (¬ r = 0 → wp_X5_at a σ1 Φ)))
theorem k_output {σ τ : S9} {lim : Nat} (a : Int32) (h : RR σ τ lim) (hlim : lim < 1000000) : OKC lim (wt_output a σ) (wp_X11_output a τ) := by
  have hb : ∀ Ψ : Int32 → S9 → Prop, Ψ 0 (sF τ 0 1) → wp_X11_output_b36 Ψ a τ := by
    intro Ψ k
    unfold wp_X11_output_b36 wp_X11_output_b37
    exact s_goes0 (br_t rfl k)
  rcases RR_16 h with ⟨r1, r2⟩ | ⟨r1, r2, g, S, M, pl, np, rd, inp, n, o, r3, r4, r5⟩
  · refine Or.inr ⟨1, 0, σ, sF τ 0 1, Or.inl rfl, RR_thrown h 1, rfl, fun Φ Θ k => br_t r1 k, fun Ψ k => ?_⟩
    unfold wp_X11_output
    exact br_t r2 (hb Ψ k)
  · obtain ⟨t, t1, t2, t3⟩ := r5.1.ot
    have hoa := r5.1.oa
    have n1 : ¬ σ.1 1 = 0 := by rw [r1]; decide
    have n2 : ¬ τ.1 16 = 0 := by rw [r2]; decide
    have bad : (a < 0 ∨ nI t ≤ a ∨ a < nI t - 200) → OKC lim (wt_output a σ) (wp_X11_output a τ) := by
      intro z
      refine Or.inr ⟨1, 0, σ, sF τ 0 1, Or.inl rfl, RR_thrown h 1, rfl, fun Φ Θ k => br_f n1 ?_, fun Ψ k => ?_⟩
      · unfold wp_X5_keeps
        rw [t1]
        have g : (fun (r : Int32) (σ1 : S9) => (r = 0 → Θ 1 σ1) ∧ (¬ r = 0 → wp_X5_at a σ1 Φ)) 0 σ := br_t rfl k
        exact br_c (fun _ => g) (fun y1 => br_c (fun _ => g) (fun y2 => br_c (fun _ => g) (fun y3 => by
          rcases z with z | z | z
          · exact absurd z y1
          · exact absurd z y2
          · exact absurd z y3)))
      · unfold wp_X11_output
        rw [t2]
        exact br_f n2 (br_c (fun _ => hb Ψ k) (fun y1 => br_c (fun _ => hb Ψ k) (fun y2 => br_c (fun _ => hb Ψ k) (fun y3 => by
          rcases z with z | z | z
          · exact absurd z y1
          · exact absurd z y2
          · exact absurd z y3))))
    by_cases z : a < 0 ∨ nI t ≤ a ∨ a < nI t - 200
    · exact bad z
    · have z1 : ¬ a < 0 := fun y => z (Or.inl y)
      have z2 : ¬ nI t ≤ a := fun y => z (Or.inr (Or.inl y))
      have z3 : ¬ a < nI t - 200 := fun y => z (Or.inr (Or.inr y))
      obtain ⟨p, hp, hpe⟩ : ∃ p : Nat, p < t ∧ a = nI p := by
        rcases pk_ix a (n := t) (by omega) with q | q | q
        · exact absurd q z1
        · exact absurd q z2
        · exact q
      have hmod : a - a / 200 * 200 = nI (p % 200) := by rw [hpe, show (200 : Int32) = nI 200 from rfl]; exact pk_rem (by omega) (by omega) (by omega)
      have hm2 : p % 200 < 200 := Nat.mod_lt _ (by omega)
      have hv : σ.2.1 19 (p % 200) = τ.2.1 23 (p % 200) := by
        refine hoa _ hm2 ?_
        rw [t1, nI_clamp (by omega)]
        have := Nat.mod_le p 200
        omega
      refine Or.inl ⟨σ.2.1 19 (p % 200), σ, sF τ 0 0, RR_thrown h 0, rfl, fun Φ Θ k => br_f n1 ?_, fun Ψ k => ?_⟩
      · unfold wp_X5_keeps
        rw [t1]
        refine br_f z1 (br_f z2 (br_f z3 (br_f (by decide) ?_)))
        unfold wp_X5_at
        rw [hmod, nI_clamp (by omega)]
        exact ⟨pk_in (p % 200) 200 hm2, k⟩
      · unfold wp_X11_output
        rw [t2]
        refine br_f n2 (br_f z1 (br_f z2 (br_f z3 ?_)))
        unfold wp_X11_output_b37
        refine s_goes1 (br_f (by decide) ?_)
        rw [hmod, nI_clamp (by omega)]
        rw [hv] at k
        exact ⟨pk_in (p % 200) 200 hm2, k⟩
def wt_name (a : Int32) (σ : S9) (Φ Θ : Int32 → S9 → Prop) : Prop := (σ.1 1 = 0 → Θ 1 σ) ∧ (¬ σ.1 1 = 0 → (a < 0 → Θ 1 σ) ∧ (¬ a < 0 → (26 ≤ a → Θ 1 σ) ∧ (¬ 26 ≤ a → vp_in a 26 ∧ Φ (σ.2.1 20 a.toNatClampNeg) σ)))
theorem k_name {σ τ : S9} {lim : Nat} (a : Int32) (h : RR σ τ lim) : OKC lim (wt_name a σ) (wp_X11_name a τ) := by
  have hb : ∀ Ψ : Int32 → S9 → Prop, Ψ 0 (sF τ 0 1) → wp_X11_name_b22 Ψ a τ := by
    intro Ψ k
    unfold wp_X11_name_b22 wp_X11_name_b23
    exact s_goes0 (br_t rfl k)
  rcases RR_16 h with ⟨r1, r2⟩ | ⟨r1, r2, g, S, M, pl, np, rd, inp, n, o, r3, r4, r5⟩
  · refine Or.inr ⟨1, 0, σ, sF τ 0 1, Or.inl rfl, RR_thrown h 1, rfl, fun Φ Θ k => br_t r1 k, fun Ψ k => ?_⟩
    unfold wp_X11_name
    exact br_t r2 (hb Ψ k)
  · have n1 : ¬ σ.1 1 = 0 := by rw [r1]; decide
    have n2 : ¬ τ.1 16 = 0 := by rw [r2]; decide
    rcases pk_ix a (n := 26) (by omega) with q | q | ⟨p, hp, q⟩
    · refine Or.inr ⟨1, 0, σ, sF τ 0 1, Or.inl rfl, RR_thrown h 1, rfl, fun Φ Θ k => br_f n1 (br_t q k), fun Ψ k => ?_⟩
      unfold wp_X11_name
      exact br_f n2 (br_t q (hb Ψ k))
    · refine Or.inr ⟨1, 0, σ, sF τ 0 1, Or.inl rfl, RR_thrown h 1, rfl, fun Φ Θ k => br_f n1 (br_c (fun _ => k) (fun _ => br_t q k)), fun Ψ k => ?_⟩
      unfold wp_X11_name
      exact br_f n2 (br_c (fun _ => hb Ψ k) (fun _ => br_t q (hb Ψ k)))
    · have e1 : ¬ a < 0 := by rw [q]; exact nI_pos (by omega)
      have e2 : ¬ 26 ≤ a := by rw [q, show (26 : Int32) = nI 26 from rfl, nI_leI (by omega) (by omega)]; omega
      have hv := r5.1.eb.nm p hp
      refine Or.inl ⟨σ.2.1 20 p, σ, sF τ 0 0, RR_thrown h 0, rfl, fun Φ Θ k => br_f n1 (br_f e1 (br_f e2 ?_)), fun Ψ k => ?_⟩
      · rw [q, nI_clamp (by omega)]; exact ⟨pk_in p 26 hp, k⟩
      · unfold wp_X11_name
        refine br_f n2 (br_f e1 (br_f e2 ?_))
        unfold wp_X11_name_b23
        refine s_goes1 (br_f (by decide) ?_)
        rw [q, nI_clamp (by omega)]
        rw [hv] at k
        exact ⟨pk_in p 26 hp, k⟩
def wt_cell (a : Int32) (σ : S9) (Φ Θ : Int32 → S9 → Prop) : Prop := (σ.1 1 = 0 → Θ 1 σ) ∧ (¬ σ.1 1 = 0 → wp_X10_isCell a σ (fun r σ1 => (r = 0 → Θ 1 σ1) ∧ (¬ r = 0 → vp_in a 100 ∧ Φ (σ1.2.1 21 a.toNatClampNeg) σ1)))
theorem k_cell {σ τ : S9} {lim : Nat} (a : Int32) (h : RR σ τ lim) : OKC lim (wt_cell a σ) (wp_X11_cell a τ) := by
  have hb : ∀ Ψ : Int32 → S9 → Prop, Ψ 0 (sF τ 0 1) → wp_X11_cell_b19 Ψ a τ := by
    intro Ψ k
    unfold wp_X11_cell_b19 wp_X11_cell_b20
    exact s_goes0 (br_t rfl k)
  rcases RR_16 h with ⟨r1, r2⟩ | ⟨r1, r2, g, S, M, pl, np, rd, inp, n, o, r3, r4, r5⟩
  · refine Or.inr ⟨1, 0, σ, sF τ 0 1, Or.inl rfl, RR_thrown h 1, rfl, fun Φ Θ k => br_t r1 k, fun Ψ k => ?_⟩
    unfold wp_X11_cell
    exact br_t r2 (hb Ψ k)
  · have n1 : ¬ σ.1 1 = 0 := by rw [r1]; decide
    have n2 : ¬ τ.1 16 = 0 := by rw [r2]; decide
    by_cases hc : vp_in a 100
    · obtain ⟨p, hp, q⟩ := nz_in hc (by omega)
      have bad : ¬ (a < 0 ∨ 100 ≤ a) := by
        rw [q]
        intro z
        rcases z with z | z
        · exact nI_pos (by omega) z
        · rw [show (100 : Int32) = nI 100 from rfl, nI_leI (by omega) (by omega)] at z; omega
      have hv := r5.1.eb.ce p hp
      refine Or.inl ⟨σ.2.1 21 p, σ, sF τ 0 0, RR_thrown h 0, rfl, fun Φ Θ k => br_f n1 ?_, fun Ψ k => ?_⟩
      · refine (s_cellC (fun _ => br_f (by decide) ⟨hc, ?_⟩) (fun _ z => absurd z bad)).1
        rw [q, nI_clamp (by omega)]; exact k
      · unfold wp_X11_cell
        refine br_f n2 (s_cellC (fun _ => br_f (by decide) ?_) (fun _ z => absurd z bad)).2
        unfold wp_X11_cell_b20
        refine s_goes1 (br_f (by decide) ⟨hc, ?_⟩)
        rw [q, nI_clamp (by omega)]
        rw [hv] at k
        exact k
    · have nex : ¬ ∃ p : Nat, p < 100 ∧ a = nI p := fun ⟨p, hp, e⟩ => hc (by rw [e]; exact pk_in p 100 hp)
      refine Or.inr ⟨1, 0, σ, sF τ 0 1, Or.inl rfl, RR_thrown h 1, rfl, fun Φ Θ k => br_f n1 (s_cellC (fun z => absurd z nex) (fun _ _ => br_t rfl k)).1, fun Ψ k => ?_⟩
      unfold wp_X11_cell
      exact br_f n2 (s_cellC (fun z => absurd z nex) (fun _ _ => br_t rfl (hb Ψ k))).2
def wt_count (a : Int32) (σ : S9) (Φ Θ : Int32 → S9 → Prop) : Prop := (a = 0 → Φ (σ.1 2) σ) ∧ (¬ a = 0 → (a = 1 → (σ.1 0 = 0 → Φ 0 σ) ∧ (¬ σ.1 0 = 0 → Φ (σ.1 4) σ)) ∧ (¬ a = 1 → (a = 2 → (σ.1 0 = 0 → Φ 0 σ) ∧ (¬ σ.1 0 = 0 → Φ (σ.1 5) σ)) ∧ (¬ a = 2 → (a = 3 → Φ (σ.1 3) σ) ∧ (¬ a = 3 → Θ 1 σ))))
theorem k_count {σ τ : S9} {lim : Nat} (a : Int32) (h : RR σ τ lim) : OKC lim (wt_count a σ) (wp_X11_count a τ) := by
  have hb : ∀ Ψ : Int32 → S9 → Prop, Ψ 0 (sF τ 0 1) → wp_X11_count_b14 Ψ a τ := by
    intro Ψ k
    unfold wp_X11_count_b14 wp_X11_count_b15
    exact s_goes0 (br_t rfl k)
  have h0 := h
  obtain ⟨⟨L, t1, t2, t3, t4⟩, -, inp, hI, hp⟩ := h0
  rcases pk_ix a (n := 4) (by omega) with q | q | ⟨N, hN, q⟩
  · have ne : ∀ c : Nat, c < 4 → ¬ a = nI c := fun c hc e => by rw [e] at q; exact nI_pos (by omega) q
    refine Or.inr ⟨1, 0, σ, sF τ 0 1, Or.inl rfl, RR_thrown h 1, rfl, fun Φ Θ k => br_f (ne 0 (by omega)) (br_f (ne 1 (by omega)) (br_f (ne 2 (by omega)) (br_f (ne 3 (by omega)) k))), fun Ψ k => ?_⟩
    unfold wp_X11_count
    exact br_t q (hb Ψ k)
  · have ne : ∀ c : Nat, c < 4 → ¬ a = nI c := fun c hc e => by rw [e, nI_leI (by omega) (by omega)] at q; omega
    have e2 : 3 < a := Int32.lt_of_lt_of_le (show (3 : Int32) < nI 4 by decide) q
    refine Or.inr ⟨1, 0, σ, sF τ 0 1, Or.inl rfl, RR_thrown h 1, rfl, fun Φ Θ k => br_f (ne 0 (by omega)) (br_f (ne 1 (by omega)) (br_f (ne 2 (by omega)) (br_f (ne 3 (by omega)) k))), fun Ψ k => ?_⟩
    unfold wp_X11_count
    exact br_c (fun _ => hb Ψ k) (fun _ => br_t e2 (hb Ψ k))
  · have e1 : ¬ a < 0 := by rw [q]; exact nI_pos (by omega)
    have e2 : ¬ 3 < a := by rw [q, show (3 : Int32) = nI 3 from rfl, nI_ltI (by omega) (by omega)]; omega
    have mdl : ∀ Ψ : Int32 → S9 → Prop, ((a = (0 : Int32) → Ψ (τ.1 1) (sF τ 0 0)) ∧ (¬ a = (0 : Int32) → (a = (1 : Int32) → ((τ.1 10) = 0 → Ψ (0 : Int32) (sF τ 0 0)) ∧ (¬ (τ.1 10) = 0 → Ψ (τ.1 8) (sF τ 0 0))) ∧ (¬ a = (1 : Int32) → (a = (2 : Int32) → ((τ.1 10) = 0 → Ψ (0 : Int32) (sF τ 0 0)) ∧ (¬ (τ.1 10) = 0 → Ψ (τ.1 13) (sF τ 0 0))) ∧ (¬ a = (2 : Int32) → Ψ (τ.1 22) (sF τ 0 0))))) → wp_X11_count a τ Ψ := by
      intro Ψ k
      unfold wp_X11_count wp_X11_count_b15
      exact br_f e1 (br_f e2 (s_goes1 (br_f (by decide) k)))
    have hN4 : N = 0 ∨ N = 1 ∨ N = 2 ∨ N = 3 := by omega
    have fin : ∀ r : Int32, (∀ Φ Θ : Int32 → S9 → Prop, Φ r σ → wt_count a σ Φ Θ) → (∀ Ψ : Int32 → S9 → Prop, Ψ r (sF τ 0 0) → wp_X11_count a τ Ψ) → OKC lim (wt_count a σ) (wp_X11_count a τ) := fun r c1 c2 => Or.inl ⟨r, σ, sF τ 0 0, RR_thrown h 0, rfl, c1, c2⟩
    rcases hN4 with rfl | rfl | rfl | rfl
    · have ea : a = 0 := q
      exact fin (nI L) (fun Φ Θ k => br_t ea (by rw [t1]; exact k)) (fun Ψ k => mdl Ψ (br_t ea (by rw [t2]; exact k)))
    · have ea : a = 1 := q
      rcases hp with ⟨p1, p2, -⟩ | ⟨g, S, M, pl, np, ⟨p1, p2, p3, p4, p5, p6, p7, p8⟩, -⟩
      · exact fin 0 (fun Φ Θ k => br_f (by rw [ea]; decide) (br_t ea (br_t p1 k))) (fun Ψ k => mdl Ψ (br_f (by rw [ea]; decide) (br_t ea (br_t p2 k))))
      · exact fin (nI S) (fun Φ Θ k => br_f (by rw [ea]; decide) (br_t ea (br_f (by rw [p1]; decide) (by rw [p4]; exact k)))) (fun Ψ k => mdl Ψ (br_f (by rw [ea]; decide) (br_t ea (br_f (by rw [p2]; decide) (by rw [p5]; exact k)))))
    · have ea : a = 2 := q
      rcases hp with ⟨p1, p2, -⟩ | ⟨g, S, M, pl, np, ⟨p1, p2, p3, p4, p5, p6, p7, p8⟩, -⟩
      · exact fin 0 (fun Φ Θ k => br_f (by rw [ea]; decide) (br_f (by rw [ea]; decide) (br_t ea (br_t p1 k)))) (fun Ψ k => mdl Ψ (br_f (by rw [ea]; decide) (br_f (by rw [ea]; decide) (br_t ea (br_t p2 k)))))
      · exact fin (nI np) (fun Φ Θ k => br_f (by rw [ea]; decide) (br_f (by rw [ea]; decide) (br_t ea (br_f (by rw [p1]; decide) (by rw [p6]; exact k))))) (fun Ψ k => mdl Ψ (br_f (by rw [ea]; decide) (br_f (by rw [ea]; decide) (br_t ea (br_f (by rw [p2]; decide) (by rw [p7]; exact k))))))
    · have ea : a = 3 := q
      exact fin (nI inp) (fun Φ Θ k => br_f (by rw [ea]; decide) (br_f (by rw [ea]; decide) (br_f (by rw [ea]; decide) (br_t ea (by rw [hI.1]; exact k))))) (fun Ψ k => mdl Ψ (br_f (by rw [ea]; decide) (br_f (by rw [ea]; decide) (br_f (by rw [ea]; decide) (by rw [hI.2.1]; exact k)))))
/-! clear, give -/
theorem k_clear {σ τ : S9} {lim : Nat} (h : RR σ τ lim) : ∃ (r : Int32) (σ' τ' : S9), RR σ' τ' lim ∧ (∀ Φ : Int32 → S9 → Prop, Φ r σ' → wp_X10_clear σ Φ) ∧ ∀ Ψ : Int32 → S9 → Prop, Ψ r τ' → wp_X11_clear τ Ψ := by
  obtain ⟨⟨L, t1, t2, t3, t4⟩, hW, inp, hI, hp⟩ := h
  refine ⟨nI L, sF σ 2 0, sF (sF τ 0 0) 1 0, ⟨⟨0, rfl, rfl, t3, ⟨by omega, fun i hi => by omega⟩⟩, hW, inp, hI, hp⟩, fun Φ k => ?_, fun Ψ k => ?_⟩
  · unfold wp_X10_clear
    rw [t1]; exact nm_e (nm_e k)
  · unfold wp_X11_clear
    refine nm_e ?_
    rw [show (sF τ 0 0).1 1 = nI L from t2]
    exact nm_e (nm_e k)
def wt_give (a : Int32) (σ : S9) (Φ Θ : Int32 → S9 → Prop) : Prop := (σ.1 3 = 300 → Θ 1 σ) ∧ (¬ σ.1 3 = 300 → wp_X2_append a σ (fun σ1 => Φ (σ1.1 3) σ1))
theorem k_give {σ τ : S9} {lim : Nat} (a : Int32) (h : RR σ τ lim) : OKC lim (wt_give a σ) (wp_X11_give a τ) := by
  have h0 := h
  obtain ⟨hT, hW, inp, ⟨u1, u2, u3, u4⟩, hp⟩ := h0
  by_cases e : inp = 300
  · refine Or.inr ⟨1, 0, σ, sF τ 0 1, Or.inl rfl, RR_thrown h 1, rfl, fun Φ Θ k => br_t (by rw [u1, e]; rfl) k, fun Ψ k => ?_⟩
    unfold wp_X11_give wp_X11_give_b16
    rw [u2, e]
    exact br_t (by decide) (s_goes0 (br_t rfl k))
  · obtain ⟨σ', hσ'⟩ : ∃ σ', σ' = sF (sA σ 1 (upd (σ.2.1 1) inp a)) 3 (nI (inp + 1)) := ⟨_, rfl⟩
    obtain ⟨τ', hτ'⟩ : ∃ τ', τ' = sF (sA (sF τ 0 0) 24 (upd (τ.2.1 24) inp a)) 22 (nI (inp + 1)) := ⟨_, rfl⟩
    have hia : ∀ i, i < inp + 1 → σ'.2.1 1 i = τ'.2.1 24 i := fun i hi => by
      rw [hσ', hτ']
      show upd (σ.2.1 1) inp a i = upd (τ.2.1 24) inp a i
      by_cases ei : i = inp
      · rw [ei, pk_us, pk_us]
      · rw [pk_un ei, pk_un ei]; exact u4 i (by omega)
    have hI' : INP σ' τ' (inp + 1) := ⟨by rw [hσ']; rfl, by rw [hτ']; rfl, by omega, hia⟩
    refine Or.inl ⟨nI (inp + 1), σ', τ', ⟨?_, ?_, inp + 1, hI', ?_⟩, by rw [hτ']; rfl, fun Φ Θ k => br_f ?_ ?_, fun Ψ k => ?_⟩
    · rw [hσ', hτ']; exact hT
    · rw [hσ']; exact hW
    · rcases hp with hp | ⟨g, S, M, pl, np, hp, hs⟩
      · rw [hσ', hτ']; exact Or.inl hp
      · obtain ⟨p1, p2, p3, p4, p5, p6, p7, p8⟩ := hp
        have hPG : PG σ'.2.1 τ'.2.1 g S M pl := by
          rw [hσ', hτ']
          exact PG_up p3 ⟨rfl, rfl, rfl, rfl, rfl, rfl, rfl, rfl, rfl, rfl, rfl⟩ ⟨rfl, rfl, rfl, rfl, rfl, rfl, rfl, rfl, rfl⟩
        refine Or.inr ⟨g, S, M, pl, np, ⟨by rw [hσ']; exact p1, by rw [hτ']; exact p2, hPG, by rw [hσ']; exact p4, by rw [hτ']; exact p5, by rw [hσ']; exact p6, by rw [hτ']; exact p7, by rw [hτ']; exact p8⟩, ?_⟩
        rcases hs with ⟨s1, s2⟩ | ⟨s1, s2, rd, n, o, s3⟩
        · exact Or.inl ⟨by rw [hσ']; exact s1, by rw [hτ']; exact s2⟩
        · refine Or.inr ⟨by rw [hσ']; exact s1, by rw [hτ']; exact s2, rd, n, o, ?_⟩
          obtain ⟨⟨x1, x2, x3, x4, x5, x6, x7, x8, x9, x10, x11, x12⟩, x13⟩ := s3
          have hfr : FR σ'.2.1 τ'.2.1 g S M o n := by
            rw [hσ', hτ']
            exact FR_up x9 rfl rfl rfl rfl
          have heb : EB σ' τ' rd (inp + 1) := ⟨by rw [hσ']; exact x2.r22, hI'.1, hI'.2.1, hI'.2.2.1, hia, by rw [hσ', hτ']; exact x2.nm, by rw [hσ', hτ']; exact x2.ce⟩
          refine ⟨⟨hPG, heb, by rw [hτ']; exact x3, by omega, by rw [hσ', hτ']; exact x5, by rw [hτ']; exact x6, by rw [hσ']; exact x7, by rw [hτ']; exact x8, hfr, by rw [hσ', hτ']; exact x10, by rw [hσ', hτ']; exact x11, by rw [hσ', hτ']; exact x12⟩, ?_⟩
          rw [hσ', hτ']; exact x13
    · rw [u1]
      intro z
      exact e (nIj (by omega) (by omega) (b := 300) z)
    · unfold wp_X2_append
      rw [u1, nI_clamp (by omega)]
      refine ⟨pk_in inp 300 (by omega), nm_e (nm_e ?_)⟩
      rw [show (sA σ 1 (upd (σ.2.1 1) inp a)).1 3 = nI inp from u1, nI_1]
      rw [hσ'] at k
      exact k
    · unfold wp_X11_give wp_X11_give_b16
      rw [u2]
      refine pk_le 300 inp (fun z => absurd z (by omega)) (fun _ => s_goes1 (br_f (by decide) ?_))
      rw [show (sF τ 0 0).1 22 = nI inp from u2, nI_clamp (by omega)]
      refine ⟨pk_in inp 300 (by omega), nm_e (nm_e ?_)⟩
      rw [show (sA (sF τ 0 0) 24 (upd ((sF τ 0 0).2.1 24) inp a)).1 22 = nI inp from u2, nI_1]
      rw [hτ'] at k
      exact k
