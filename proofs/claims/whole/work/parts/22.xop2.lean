/-! ===== behind an operand: all words that don't end the expression ===== -/
theorem c_op {b σ : S9} {w : List (Int32 × Int32)} {x : Int32} {Φ : Int32 → S9 → Prop} (h : Cs b w σ) (h16 : b.1 16 = 0) (k : wp_X1_takesOperator x σ (fun r2 σ1 => wp_X1_takes_b20 Φ r2 σ1)) : wp_X1_takes x σ Φ := by
  unfold wp_X1_takes
  rw [Cs_1 h (show (16 : Nat) ≠ 13 by decide), h16]
  exact br_t rfl k
theorem s_cmpWaits {b σ : S9} {w : List (Int32 × Int32)} {Φ : Int32 → S9 → Prop} (h : Cs b w σ) (hw : w.length ≤ 120) (k1 : (∃ s w', w = (s, 1) :: w') → Φ 1 σ) (k0 : (¬ ∃ s w', w = (s, 1) :: w') → Φ 0 σ) : wp_X1_comparisonWaits σ Φ := by
  unfold wp_X1_comparisonWaits
  rw [Cs_13 h]
  cases w with
  | nil => exact br_t (by decide) (k0 (fun ⟨s, w', e⟩ => nomatch e))
  | cons x w =>
    obtain ⟨s, r⟩ := x
    obtain ⟨p1, p2, p3⟩ := Cs_pop h
    simp only [List.length_cons] at hw ⊢
    refine br_f (nI_nle (by omega) (by omega)) ?_
    rw [nI_pred, nI_clamp (by omega), p3]
    refine ⟨pk_in w.length 120 (by omega), br_c (fun e => k1 ⟨s, w, by rw [show r = 1 from e]⟩) (fun e => k0 (fun ⟨s', w', e2⟩ => ?_))⟩
    injection e2 with e3 _
    injection e3 with _ e4
    exact e e4
theorem okW_up {fo : Bool} {w : List (Int32 × Int32)} {n m : Nat} (h : okW fo w n) (hn : 1 ≤ n) (hm : m = 0 ∨ (1 ≤ m ∧ m ≤ n)) : okW fo w m := by
  cases w with
  | nil =>
    match n, hn, h with
    | n + 1, _, h =>
      match m, hm with
      | 0, _ => trivial
      | m + 1, _ => exact h
  | cons x w =>
    unfold okW at h ⊢
    rcases h with ⟨-, -, e, -⟩ | ⟨-, -, e, -⟩ | ⟨a, b, e, d⟩ | ⟨a, b, e, d⟩ | ⟨a, b, d⟩
    · omega
    · omega
    · exact Or.inr (Or.inr (Or.inl ⟨a, b, by omega, d⟩))
    · exact Or.inr (Or.inr (Or.inr (Or.inl ⟨a, b, by omega, d⟩)))
    · exact Or.inr (Or.inr (Or.inr (Or.inr ⟨a, b, d⟩)))
theorem x_op {b c : S9} {S pl0 pl h f hb j : Nat} {fo : Bool} {w base : List (Int32 × Int32)} {x kd v : Int32} {num : Int64} (hbl : base.length ≤ 100) (hX : XR b c S pl0 pl h f w false fo hb) (hfo : fo = true → w ≠ []) (hk : WK x kd v num) (hwd : wd c j kd) (hroom : pl + w.length + 1 ≤ 3000)
    (hB : pars w = 0 → ∀ c1, wd c1 j kd → FXc c c1 pl → MFail c1 base j) :
    xAcc b c w (xTh base fo w false) x S pl0 pl hb j fo base ∨ xRej b c w (xTh base fo w false) x S j := by
  have hX0 := hX
  obtain ⟨⟨x1, x2, x3, x4, x5, x6, x7, x8, x9⟩, hn, x16⟩ := hX0
  have hn := hn rfl
  simp only [Bool.false_eq_true, if_false] at x5 x6 x16
  have hth : xTh base fo w false = fr base fo w 0 := rfl
  rw [hth]
  have wl : w.length ≤ 119 := by omega
  have hnar := okW_nar w 0 x2
  have kp : ∀ c1 : S9, ∀ p : Nat, FXc c c1 p → c1.1 3 = c.1 3 → wd c1 j kd := fun c1 p g e => ⟨e.trans hwd.1, hwd.2.1, by rw [g.2.1 1 (by decide) (by decide) (by decide) (by decide) (by decide) (by decide)]; exact hwd.2.2.1, by rw [g.1 4 (by decide) (by decide) (by decide) (by decide) (by decide) (by decide)]; exact hwd.2.2.2⟩
  -- a sign of two operands is taken: w' waits below it, at its level
  have take : ∀ (s r : Int32) (n : Nat) (b1 c1 : S9) (pl1 h1 : Nat) (w1 : List (Int32 × Int32)) (th1 : List (Int32 × Int32)), vp_nar .char s = s → ¬ (r = 0 ∨ r = 4) → okW fo ((s, r) :: w1) 0 → XQ b1 c1 S pl0 pl1 h1 f w1 n false fo hb → FXb b b1 S → FXc c c1 pl → c1.1 3 = c.1 3 → pl ≤ pl1 → pl1 + w1.length = pl + w.length → (11, 0) :: fr base fo ((s, r) :: w1) 0 = th1 →
      (∀ (σ : S9) (Φ : Int32 → S9 → Prop), Cs b w σ → (∀ σ', Cs (sF b1 16 1) ((s, r) :: w1) σ' → Φ 1 σ') → wp_X1_takes x σ Φ) → (∀ Ψ : Int32 → S9 → Prop, MG (sF c1 3 (nI (j + 1))) th1 Ψ → MG c (fr base fo w 0) Ψ) → xAcc b c w (fr base fo w 0) x S pl0 pl hb j fo base := by
    intro s r n b1 c1 pl1 h1 w1 th1 hs hr hok hQ g1 g2 g3 g4 g5 g6 g7 g8
    obtain ⟨y1, y2, y3, y4, y5, y6, y7, y8, y9⟩ := hQ
    simp only [Bool.false_eq_true, if_false] at y5 y6
    refine ⟨sF b1 16 1, sF c1 3 (nI (j + 1)), (s, r) :: w1, pl1, h1, f, true, ⟨⟨y1, hok, ?_, y4, ?_, ?_, y7, ?_, ?_⟩, fun z => absurd z (by decide), rfl⟩, g4, ?_, g1.trans (FXb_sF (by omega)), g2.trans (FXc_sF (pl := pl1) (Or.inl rfl)) g4, rfl, g7, fun Ψ kk => g8 Ψ ?_⟩
    · rw [pars_pos (x := (s, r)) (fun z => hr (Or.inl z))]; exact y3
    · simp only [List.length_cons, if_true]; omega
    · rw [bins_two (x := (s, r)) hr]; simp only [if_true]; omega
    · simp only [List.length_cons]; omega
    · simp only [List.length_cons]; omega
    · simp only [List.length_cons]; omega
    · rw [← g6]; exact kk
  obtain ⟨c3, h3, a1, a2, a3, a4, a5, a6, a7⟩ := x_down3 (base := base) hbl (by omega) hX.1 hn hfo hwd.2.2.2
  obtain ⟨i1, i2, i3, i4⟩ := wdn_keeps (r := 3) (S := S) w b pl
  have w3 := kp c3 pl a1 a2
  have l3 := fr_len base fo (wdn 3 S b pl w).2.2 1 (by omega)
  -- times
  have mul : ∀ s : Int32, (s = 42 ∨ s = 47 ∨ s = 37) → x = s → kd = 100 + s → (∀ (σ : S9) (Φ : Int32 → S9 → Prop), wp_X1_takesSign x 3 σ (fun r σ1 => narrow .boolean (.int r) = .int r ∧ wp_X1_takes_b20 Φ r σ1) → wp_X1_takesOperator x σ (fun r2 σ1 => wp_X1_takes_b20 Φ r2 σ1)) → xAcc b c w (fr base fo w 0) x S pl0 pl hb j fo base := by
    intro s hs ex ek hc
    have hns : vp_nar .char s = s := by rcases hs with rfl | rfl | rfl <;> rfl
    refine take s 3 1 _ c3 _ h3 _ ((11, 0) :: (13, s) :: (10, 0) :: fr base fo (wdn 3 S b pl w).2.2 1) hns (by decide) (Or.inr (Or.inl ⟨rfl, hs, rfl, a5.2.1⟩)) a5 a3 a1 a2 a4 i2 (by rw [fr_c0, if_neg (show ¬ (3 : Int32) = 4 by decide), if_pos rfl]) (fun σ Φ hσ k => c_op hσ x16 (hc σ Φ ?_)) (fun Ψ kk => a7 Ψ (mg_timed1 (by rw [← ek]; exact w3) (by omega) hs kk))
    rw [ex]
    refine s_takesSign hσ x1.1.2.1 x1.1.1 x1.1.2.2.1 (by omega) wl hnar hns (fun σ1 g => ⟨rfl, s_takes1 ?_ (k σ1 g)⟩)
    rw [Cs_1 g (show (16 : Nat) ≠ 13 by decide)]; rfl
  by_cases e37 : x = 37
  · exact Or.inl (mul 37 (Or.inr (Or.inr rfl)) e37 ((wk_sg hk 37 (by unfold isSg; omega)).mpr e37) (fun σ Φ k => by unfold wp_X1_takesOperator; exact br_t e37 k))
  by_cases e42 : x = 42
  · exact Or.inl (mul 42 (Or.inl rfl) e42 ((wk_sg hk 42 (by unfold isSg; omega)).mpr e42) (fun σ Φ k => by unfold wp_X1_takesOperator; exact br_f e37 (br_f (by rw [e42]; decide) (br_t e42 k))))
  by_cases e47 : x = 47
  · exact Or.inl (mul 47 (Or.inr (Or.inl rfl)) e47 ((wk_sg hk 47 (by unfold isSg; omega)).mpr e47) (fun σ Φ k => by unfold wp_X1_takesOperator; exact br_f e37 (br_f (by rw [e47]; decide) (br_f e42 (br_f (by rw [e47]; decide) (br_f (by rw [e47]; decide) (br_t e47 k)))))))
  have n142 : ¬ kd = 142 := fun z => e42 ((wk_sg hk 42 (by unfold isSg; omega)).mp z)
  have n147 : ¬ kd = 147 := fun z => e47 ((wk_sg hk 47 (by unfold isSg; omega)).mp z)
  have n137 : ¬ kd = 137 := fun z => e37 ((wk_sg hk 37 (by unfold isSg; omega)).mp z)
  have t3 : ∀ Ψ : Int32 → S9 → Prop, MG c3 (fr base fo (wdn 3 S b pl w).2.2 1) Ψ → MG c (fr base fo w 0) Ψ := fun Ψ k => a7 Ψ (mg_timed0 w3 (by omega) n142 n147 n137 k)
  obtain ⟨c2, h2, b1, b2, b3, b4, b5, b6, b7⟩ := x_down2 (base := base) hbl a6 a5 w3.2.2.2
  have e2 := wdn_comp (r := 2) (r' := 3) (S := S) (fun k hk => Int32.lt_trans hk (by decide)) w b pl
  rw [← e2] at b3 b4 b5 b6 b7
  obtain ⟨j1, j2, j3, j4⟩ := wdn_keeps (r := 2) (S := S) w b pl
  have f2 : FXc c c2 pl := a1.trans b1 a4
  have w2 := kp c2 pl f2 (b2.trans a2)
  have l2 := fr_len base fo (wdn 2 S b pl w).2.2 2 (by omega)
  have t2 : ∀ Ψ : Int32 → S9 → Prop, MG c2 ((8, 0) :: fr base fo (wdn 2 S b pl w).2.2 2) Ψ → MG c (fr base fo w 0) Ψ := fun Ψ k => t3 Ψ (b7 Ψ k)
  have add : ∀ s : Int32, (s = 43 ∨ s = 45) → x = s → kd = 100 + s → (∀ (σ : S9) (Φ : Int32 → S9 → Prop), wp_X1_takesSign x 2 σ (fun r σ1 => narrow .boolean (.int r) = .int r ∧ wp_X1_takes_b20 Φ r σ1) → wp_X1_takesOperator x σ (fun r2 σ1 => wp_X1_takes_b20 Φ r2 σ1)) → xAcc b c w (fr base fo w 0) x S pl0 pl hb j fo base := by
    intro s hs ex ek hc
    have hns : vp_nar .char s = s := by rcases hs with rfl | rfl <;> rfl
    refine take s 2 2 _ c2 _ h2 _ ((11, 0) :: (10, 0) :: (13, s) :: (8, 0) :: fr base fo (wdn 2 S b pl w).2.2 2) hns (by decide) (Or.inr (Or.inr (Or.inl ⟨rfl, hs, by omega, b5.2.1⟩))) b5 (a3.trans b3) f2 (b2.trans a2) (by omega) j2 (by rw [fr_c0, if_neg (show ¬ (2 : Int32) = 4 by decide), if_neg (show ¬ (2 : Int32) = 3 by decide), if_pos rfl]) (fun σ Φ hσ k => c_op hσ x16 (hc σ Φ ?_)) (fun Ψ kk => t2 Ψ (mg_summed1 (by rw [← ek]; exact w2) (by omega) hs kk))
    rw [ex]
    refine s_takesSign hσ x1.1.2.1 x1.1.1 x1.1.2.2.1 (by omega) wl hnar hns (fun σ1 g => ⟨rfl, s_takes1 ?_ (k σ1 g)⟩)
    rw [Cs_1 g (show (16 : Nat) ≠ 13 by decide)]; rfl
  by_cases e43 : x = 43
  · exact Or.inl (add 43 (Or.inl rfl) e43 ((wk_sg hk 43 (by unfold isSg; omega)).mpr e43) (fun σ Φ k => by unfold wp_X1_takesOperator; exact br_f e37 (br_f (by rw [e43]; decide) (br_f e42 (br_t e43 k)))))
  by_cases e45 : x = 45
  · exact Or.inl (add 45 (Or.inr rfl) e45 ((wk_sg hk 45 (by unfold isSg; omega)).mpr e45) (fun σ Φ k => by unfold wp_X1_takesOperator; exact br_f e37 (br_f (by rw [e45]; decide) (br_f e42 (br_f e43 (br_t e45 k))))))
  have n143 : ¬ kd = 143 := fun z => e43 ((wk_sg hk 43 (by unfold isSg; omega)).mp z)
  have n145 : ¬ kd = 145 := fun z => e45 ((wk_sg hk 45 (by unfold isSg; omega)).mp z)
  have t1 : ∀ Ψ : Int32 → S9 → Prop, MG c2 (fr base fo (wdn 2 S b pl w).2.2 2) Ψ → MG c (fr base fo w 0) Ψ := fun Ψ k => t2 Ψ (mg_summed0 w2 (by omega) n143 n145 k)
  -- a fault that shows behind the expression
  have bad : ((¬ kd = 160 ∧ ¬ kd = 161) ∨ ∃ s w', (wdn 2 S b pl w).2.2 = (s, 1) :: w') → ¬ (kd = 141 ∧ ¬ pars w = 0) → MFail c (fr base fo w 0) j := by
    intro hk2 h141
    obtain ⟨c1, h1, d1, d2, d3, d4, d5, d6, d7⟩ := x_downAll (base := base) hbl hX.1 hn hfo (by omega) hwd n142 n147 n137 n143 n145 hk2
    have w1 := kp c1 pl d1 d2
    have hp : pars (wdn 1 S b pl w).2.2 = pars w := by
      have q1 := d5.2.2.1.1
      rw [(wdn_keeps (r := 1) (S := S) w b pl).1, x3.1] at q1
      have q2 := d5.2.2.1.2.2
      exact ((nI_inj (by omega) (by omega)).mp q1).symm
    by_cases hp0 : pars w = 0
    · have e := pars_nil d5.2.1 (hp.trans hp0)
      rw [e, fr_n3] at d7
      exact (hB hp0 c1 w1 d1).back d1 d7
    · obtain ⟨w', e, -, -⟩ := pars_cons d5.2.1 (by rw [hp]; exact hp0)
      rw [e, fr_c3] at d7
      have := fr_len base fo w' 0 (by omega)
      have d6' := d6
      rw [e] at d6'
      simp only [List.length_cons] at d6'
      exact (mfail_close w1 (by omega) (fun z => h141 ⟨z, hp0⟩)).back d1 d7
  have cmp : ∀ s : Int32, (s = 60 ∨ s = 61) → x = s → kd = 100 + s → (∀ (σ : S9) (Φ : Int32 → S9 → Prop), wp_X1_writeDownTo 2 σ (fun σ7 => wp_X1_comparisonWaits σ7 (fun r14 σ8 => (r14 = 0 → wp_X1_takesSign x 1 σ8 (fun r16 σ9 => (r16 = 0 → wp_X1_takes_b20 Φ 0 σ9) ∧ (¬ r16 = 0 → wp_X1_takes_b20 Φ 1 σ9))) ∧ (¬ r14 = 0 → wp_X1_takes_b20 Φ 0 σ8))) → wp_X1_takesOperator x σ (fun r2 σ1 => wp_X1_takes_b20 Φ r2 σ1)) → xAcc b c w (fr base fo w 0) x S pl0 pl hb j fo base ∨ xRej b c w (fr base fo w 0) x S j := by
    intro s hs ex ek hc
    have hns : vp_nar .char s = s := by rcases hs with rfl | rfl <;> rfl
    by_cases hw1 : ∃ s w', (wdn 2 S b pl w).2.2 = (s, 1) :: w'
    · refine Or.inr ⟨(wdn 2 S b pl w).1, (wdn 2 S b pl w).2.2, j4, fun σ Φ hσ k => c_op hσ x16 (hc σ Φ ?_), bad (Or.inr hw1) (fun z => ?_)⟩
      · refine s_writeDown x1.1.2.1 x1.1.1 x1.1.2.2.1 (by omega) (by omega) hnar hσ (fun σ1 g => ?_)
        exact s_cmpWaits g (by omega) (fun _ => br_f (by decide) (s_takes0 (k σ1 g))) (fun z => absurd hw1 z)
      · rw [ek] at z
        rcases hs with rfl | rfl <;> exact absurd z.1 (by decide)
    · have hok3 : okW fo (wdn 2 S b pl w).2.2 3 ∧ fr base fo (wdn 2 S b pl w).2.2 2 = (6, 0) :: fr base fo (wdn 2 S b pl w).2.2 3 ∧ ∀ b' p', wdn 1 S b' p' (wdn 2 S b pl w).2.2 = (b', p', (wdn 2 S b pl w).2.2) := by
        have q := b5.2.1
        cases hww : (wdn 2 S b pl w).2.2 with
        | nil => rw [hww] at q; exact ⟨q, rfl, fun _ _ => rfl⟩
        | cons y w' =>
          rw [hww] at q
          unfold okW at q
          rcases q with ⟨-, -, e, -⟩ | ⟨-, -, e, -⟩ | ⟨-, -, e, -⟩ | ⟨e, -⟩ | ⟨e, e1, e2⟩
          · exact absurd e (by decide)
          · exact absurd e (by decide)
          · exact absurd e (by decide)
          · exact absurd ⟨y.1, w', by rw [hww, ← e]⟩ hw1
          · refine ⟨Or.inr (Or.inr (Or.inr (Or.inr ⟨e, e1, e2⟩))), ?_, fun _ _ => wdn_stop (by rw [e]; decide)⟩
            rw [fr_c2, fr_c3, if_neg (by rw [e]; decide)]
      refine Or.inl (take s 1 2 _ c2 _ h2 _ ((11, 0) :: (10, 0) :: (8, 0) :: (13, s) :: fr base fo (wdn 2 S b pl w).2.2 3) hns (by decide) (Or.inr (Or.inr (Or.inr (Or.inl ⟨rfl, hs, by omega, hok3.1⟩)))) b5 (a3.trans b3) f2 (b2.trans a2) (by omega) j2 (by rw [fr_c0, if_neg (show ¬ (1 : Int32) = 4 by decide), if_neg (show ¬ (1 : Int32) = 3 by decide), if_neg (show ¬ (1 : Int32) = 2 by decide), if_pos rfl]) (fun σ Φ hσ k => c_op hσ x16 (hc σ Φ ?_)) (fun Ψ kk => t1 Ψ ?_))
      · refine s_writeDown x1.1.2.1 x1.1.1 x1.1.2.2.1 (by omega) (by omega) hnar hσ (fun σ1 g => ?_)
        refine s_cmpWaits g (by omega) (fun z => absurd z hw1) (fun _ => br_t rfl ?_)
        rw [ex]
        refine s_takesSign (pl := (wdn 2 S b pl w).2.1) g x1.1.2.1 (by rw [j1]; exact x1.1.1) (j3 x1.1.2.2.1) (by omega) (by omega) (okW_nar _ 2 b5.2.1) hns (fun σ2 g2 => br_f (by decide) (s_takes1 ?_ (k σ2 ?_)))
        · rw [Cs_1 g2 (show (16 : Nat) ≠ 13 by decide)]; rfl
        · rw [hok3.2.2] at g2; exact g2
      · rw [hok3.2.1]
        have l3' := fr_len base fo (wdn 2 S b pl w).2.2 3 (by omega)
        exact mg_compared1 (by rw [← ek]; exact w2) (by omega) hs kk
  by_cases e60 : x = 60
  · exact cmp 60 (Or.inl rfl) e60 ((wk_sg hk 60 (by unfold isSg; omega)).mpr e60) (fun σ Φ k => by unfold wp_X1_takesOperator; exact br_f e37 (br_f (by rw [e60]; decide) (br_f e42 (br_f e43 (br_f e45 (br_f e47 (br_t e60 k)))))))
  by_cases e61 : x = 61
  · exact cmp 61 (Or.inr rfl) e61 ((wk_sg hk 61 (by unfold isSg; omega)).mpr e61) (fun σ Φ k => by unfold wp_X1_takesOperator; exact br_f e37 (br_f (by rw [e61]; decide) (br_f e42 (br_f e43 (br_f e45 (br_f e47 (br_f e60 (br_t e61 k))))))))
  have n160 : ¬ kd = 160 := fun z => e60 ((wk_sg hk 60 (by unfold isSg; omega)).mp z)
  have n161 : ¬ kd = 161 := fun z => e61 ((wk_sg hk 61 (by unfold isSg; omega)).mp z)
  by_cases e41 : x = 41
  · have ek : kd = 141 := (wk_sg hk 41 (by unfold isSg; omega)).mpr e41
    by_cases hp0 : pars w = 0
    · refine Or.inr ⟨b, w, FXb.rf _ _, fun σ Φ hσ k => c_op hσ x16 ?_, bad (Or.inl ⟨n160, n161⟩) (fun z => z.2 hp0)⟩
      unfold wp_X1_takesOperator
      refine br_f e37 (br_t e41 ?_)
      unfold wp_X1_closesParenthesis
      have e14 : σ.1 14 = 0 := by
        rw [Cs_1 hσ (show (14 : Nat) ≠ 13 by decide)]
        exact x3.1.trans (by rw [hp0]; rfl)
      exact br_t e14 ⟨rfl, s_takes0 (k σ hσ)⟩
    · obtain ⟨c1, h1, d1, d2, d3, d4, d5, d6, d7⟩ := x_downAll (base := base) hbl hX.1 hn hfo (by omega) hwd n142 n147 n137 n143 n145 (Or.inl ⟨n160, n161⟩)
      have w1 := kp c1 pl d1 d2
      obtain ⟨k1, k2, k3, k4⟩ := wdn_keeps (r := 1) (S := S) w b pl
      have hp : pars (wdn 1 S b pl w).2.2 = pars w := by
        have q1 := d5.2.2.1.1
        rw [k1, x3.1] at q1
        have q2 := d5.2.2.1.2.2
        exact ((nI_inj (by omega) (by omega)).mp q1).symm
      obtain ⟨w', e, hok', hpw⟩ := pars_cons d5.2.1 (by rw [hp]; exact hp0)
      obtain ⟨y1, y2, y3, y4, y5, y6, y7, y8, y9⟩ := d5
      simp only [Bool.false_eq_true, if_false] at y5 y6
      rw [e] at y5 y6 y8 y9 d6 k2
      rw [bins_zero (Or.inl rfl)] at y6
      simp only [List.length_cons] at y5 y8 y9 d6 k2
      rw [e, fr_c3] at d7
      -- behind the parenthesis
      obtain ⟨b2, hb2⟩ : ∃ b2, b2 = sF (wdn 1 S b pl w).1 14 (nI (pars w')) := ⟨_, rfl⟩
      obtain ⟨c2', hc2⟩ : ∃ c2', c2' = sF (sF c1 3 (nI (j + 1))) 7 (nI (pars w')) := ⟨_, rfl⟩
      have hQ : XQ b2 c2' S pl0 (wdn 1 S b pl w).2.1 h1 f w' 0 false fo hb := by
        rw [hb2, hc2]
        refine ⟨y1, hok', ⟨rfl, rfl, by omega⟩, y4, ?_, ?_, y7, by omega, by omega⟩
        · simp only [Bool.false_eq_true, if_false]; omega
        · simp only [Bool.false_eq_true, if_false]; omega
      have e4 : c2'.1 4 = -1 := by rw [hc2]; exact w1.2.2.2
      obtain ⟨c', h', g1, g2, g3, g4, g5, g6, g7⟩ := x_flush (base := base) hbl w' b2 c2' _ h1 hQ e4 (by omega)
      obtain ⟨m1, m2, m3, m4⟩ := wdn_keeps (r := 4) (S := S) w' b2 (wdn 1 S b pl w).2.1
      have ew : (sF b 16 0).1 16 = 0 := rfl
      refine Or.inl ⟨_, c', _, _, h', f, false, ⟨g5, fun _ => g6, ?_⟩, by omega, by omega, (d3.trans ?_).trans g3, ?_, ?_, fun σ Φ hσ k => c_op hσ x16 ?_, fun Ψ kk => d7 Ψ ?_⟩
      · rw [m1, hb2]
        show (wdn 1 S b pl w).1.1 16 = _
        rw [k1, x16]; rfl
      · rw [hb2]; exact FXb_sF (by omega)
      · refine d1.trans ?_ d4
        have q : FXc c1 c2' (wdn 1 S b pl w).2.1 := by
          rw [hc2]
          exact (FXc_sF (pl := (wdn 1 S b pl w).2.1) (Or.inl rfl)).trans (FXc_sF (pl := (wdn 1 S b pl w).2.1) (Or.inr (Or.inl rfl))) (Nat.le_refl _)
        exact q.trans g1 (Nat.le_refl _)
      · rw [g2, hc2]; rfl
      · unfold wp_X1_takesOperator
        refine br_f e37 (br_t e41 ?_)
        unfold wp_X1_closesParenthesis
        rw [Cs_1 hσ (show (14 : Nat) ≠ 13 by decide), x3.1]
        refine pk_eq (pars w) 0 (fun z => absurd z hp0) (fun _ => ?_)
        refine s_writeDown x1.1.2.1 x1.1.1 x1.1.2.2.1 (by omega) (by omega) hnar hσ (fun σ1 q1 => ?_)
        rw [e] at q1
        obtain ⟨p1, -, -⟩ := Cs_pop q1
        have e13 : σ1.1 13 - 1 = nI w'.length := by
          rw [Cs_13 q1]; exact nI_pred _
        rw [e13]
        refine nm_e ?_
        have e14 : (sF σ1 13 (nI w'.length)).1 14 - 1 = nI (pars w') := by
          show σ1.1 14 - 1 = _
          rw [Cs_1 q1 (show (14 : Nat) ≠ 13 by decide), k1, x3.1, ← hp, hpw]; exact nI_pred _
        rw [e14]
        refine nm_e ⟨rfl, ?_⟩
        have q2 : Cs b2 w' (sF (sF σ1 13 (nI w'.length)) 14 (nI (pars w'))) := by rw [hb2]; exact Cs_sF p1 (by decide) _
        unfold wp_X1_takes_b20
        refine br_f (by decide) (br_t ?_ ?_)
        · rw [Cs_1 q2 (show (16 : Nat) ≠ 13 by decide), hb2]
          show (wdn 1 S b pl w).1.1 16 = 0
          rw [k1, x16]
        · refine s_writeDown (pl := (wdn 1 S b pl w).2.1) x1.1.2.1 ?_ ?_ (by omega) (by omega) (okW_nar w' 0 hok') q2 (fun σ' h' => ⟨rfl, k σ' h'⟩)
          · rw [hb2]
            show (wdn 1 S b pl w).1.1 4 = _
            rw [k1]; exact x1.1.1
          · rw [hb2]; exact k3 x1.1.2.2.1
      · have := fr_len base fo w' 0 (by omega)
        refine mg_in w1.2.2.2 (by omega) (Or.inr ⟨by decide, by decide⟩) (fun τ K hτ kc => dI_close ?_) (g7 Ψ kk)
        refine s_expect hτ w1.1 w1.2.2.2 (by have := w1.2.1; omega) (fun _ τ1 q1 => nm_e ?_) (fun z => absurd (w1.2.2.1.trans ek) z)
        rw [St_1 q1 (show (7 : Nat) ≠ 5 by decide)]
        show K (sF τ1 7 (c1.1 7 - 1))
        rw [y3.2.1, hpw, nI_pred]
        refine kc _ ?_
        rw [hc2]
        exact St_sF q1 (by decide) _
  · have n141 : ¬ kd = 141 := fun z => e41 ((wk_sg hk 41 (by unfold isSg; omega)).mp z)
    refine Or.inr ⟨b, w, FXb.rf _ _, fun σ Φ hσ k => c_op hσ x16 ?_, bad (Or.inl ⟨n160, n161⟩) (fun z => n141 z.1)⟩
    unfold wp_X1_takesOperator
    exact br_f e37 (br_f e41 (br_f e42 (br_f e43 (br_f e45 (br_f e47 (br_f e60 (br_f e61 (s_takes0 (k σ hσ)))))))))
