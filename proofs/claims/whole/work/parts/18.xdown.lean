/-! ===== what waits is written down, level by level ===== -/
theorem wdn_nil {r : Int32} {S : Nat} {b : S9} {pl : Nat} : wdn r S b pl [] = (b, pl, []) := rfl
theorem wdn_stop {r : Int32} {S : Nat} {b : S9} {pl : Nat} {x : Int32 × Int32} {w : List (Int32 × Int32)} (h : x.2 < r) : wdn r S b pl (x :: w) = (b, pl, x :: w) := by
  obtain ⟨s, k⟩ := x
  show (if k < r then _ else _) = _
  rw [if_pos h]
theorem wdn_go {r : Int32} {S : Nat} {b : S9} {pl : Nat} {x : Int32 × Int32} {w : List (Int32 × Int32)} (h : ¬ x.2 < r) : wdn r S b pl (x :: w) = wdn r S (cCode b x.1 0 S pl) (pl + 1) w := by
  obtain ⟨s, k⟩ := x
  show (if k < r then _ else _) = _
  rw [if_neg h]
theorem wdn_comp {r r' : Int32} {S : Nat} (h : ∀ k : Int32, k < r → k < r') : ∀ (w : List (Int32 × Int32)) (b : S9) (pl : Nat), wdn r S b pl w = wdn r S (wdn r' S b pl w).1 (wdn r' S b pl w).2.1 (wdn r' S b pl w).2.2 := by
  intro w
  induction w with
  | nil => intro b pl; rfl
  | cons x w ih =>
    intro b pl
    by_cases e : x.2 < r'
    · rw [wdn_stop (r := r') e]
    · have e2 : ¬ x.2 < r := fun z => e (h _ z)
      rw [wdn_go (r := r') e, wdn_go e2, ih]
theorem okW_top {fo : Bool} {w : List (Int32 × Int32)} (h : okW fo w 0) : noPre w → (fo = true → w ≠ []) → okW fo w 1 ∨ ∃ s w', w = (s, 3) :: w' ∧ okW fo w' 1 := by
  intro hn hf
  cases w with
  | nil =>
    cases fo
    · exact Or.inl rfl
    · exact absurd rfl (hf rfl)
  | cons x w =>
    have h4 := hn x w rfl
    unfold okW at h
    rcases h with ⟨e, -⟩ | ⟨e, -, -, h⟩ | ⟨e, hs, -, h⟩ | ⟨e, hs, -, h⟩ | ⟨e, hs, h⟩
    · exact absurd e h4
    · exact Or.inr ⟨x.1, w, by rw [← e], h⟩
    · exact Or.inl (Or.inr (Or.inr (Or.inl ⟨e, hs, Nat.le_refl 1, h⟩)))
    · exact Or.inl (Or.inr (Or.inr (Or.inr (Or.inl ⟨e, hs, by omega, h⟩))))
    · exact Or.inl (Or.inr (Or.inr (Or.inr (Or.inr ⟨e, hs, h⟩))))
theorem pars_pos {x : Int32 × Int32} {w : List (Int32 × Int32)} (h : ¬ x.2 = 0) : pars (x :: w) = pars w := by
  show (if x.2 = 0 then 1 else 0) + pars w = pars w
  rw [if_neg h]; omega
theorem bins_two {x : Int32 × Int32} {w : List (Int32 × Int32)} (h : ¬ (x.2 = 0 ∨ x.2 = 4)) : bins (x :: w) = 1 + bins w := by
  show (if _ then 0 else 1) + bins w = _
  rw [if_neg h]
theorem bins_zero {x : Int32 × Int32} {w : List (Int32 × Int32)} (h : x.2 = 0 ∨ x.2 = 4) : bins (x :: w) = bins w := by
  show (if _ then 0 else 1) + bins w = _
  rw [if_pos h]; omega
/-- one sign off the top, by its level -/
theorem xq_pop {b c : S9} {S pl0 pl h f hb n n' : Nat} {fo : Bool} {s r : Int32} {w : List (Int32 × Int32)} (hX : XQ b c S pl0 pl h f ((s, r) :: w) n false fo hb) (h4 : c.1 4 = -1) (hr : ¬ r = 0) (hn : okW fo w n') :
    ∃ c' h', FXc c c' pl ∧ c'.1 3 = c.1 3 ∧ FXb b (cCode b s 0 S pl) S ∧ XQ (cCode b s 0 S pl) c' S pl0 (pl + 1) h' f w n' false fo hb ∧ ∀ (l : List (Int32 × Int32)) (Ψ : Int32 → S9 → Prop), l.length < 3900 → MG c' l Ψ → MG c ((13, mk s) :: l) Ψ := by
  obtain ⟨c', ⟨q1, q1'⟩, q2, q3⟩ := xq_emit hX h4 hr
  obtain ⟨x1, x2, x3, x4, x5, x6, x7, x8, x9⟩ := hX
  simp only [List.length_cons, Bool.false_eq_true, if_false] at x5 x6 x8 x9
  rw [pars_pos hr] at x3
  refine ⟨c', _, q1', q1.1 3 (by decide) (by decide) (by decide), FXb_code b s 0 S pl, ⟨q2, hn, ⟨x3.1, by rw [q1.1 7 (by decide) (by decide) (by decide)]; exact x3.2.1, x3.2.2⟩, ⟨x4.1, by rw [q1.1 9 (by decide) (by decide) (by decide)]; exact x4.2.1, x4.2.2⟩, ?_, ?_, ?_, ?_, ?_⟩, q3⟩
  · simp only [Bool.false_eq_true, if_false]; omega
  · simp only [Bool.false_eq_true, if_false]
  · unfold bins at x6; split at x6 <;> omega
  · omega
  · omega
/-- the prefixes behind an operand -/
theorem x_flush {S pl0 f hb : Nat} {fo : Bool} {base : List (Int32 × Int32)} (hbl : base.length ≤ 100) : ∀ (w : List (Int32 × Int32)) (b c : S9) (pl h : Nat), XQ b c S pl0 pl h f w 0 false fo hb → c.1 4 = -1 → w.length ≤ 130 →
    ∃ c' h', FXc c c' pl ∧ c'.1 3 = c.1 3 ∧ FXb b (wdn 4 S b pl w).1 S ∧ pl ≤ (wdn 4 S b pl w).2.1 ∧ XQ (wdn 4 S b pl w).1 c' S pl0 (wdn 4 S b pl w).2.1 h' f (wdn 4 S b pl w).2.2 0 false fo hb ∧ noPre (wdn 4 S b pl w).2.2 ∧ ∀ Ψ : Int32 → S9 → Prop, MG c' (fr base fo (wdn 4 S b pl w).2.2 0) Ψ → MG c (fr base fo w 0) Ψ := by
  intro w
  induction w with
  | nil => intro b c pl h hX h4 _; exact ⟨c, h, FXc.rf _ _, rfl, FXb.rf _ _, Nat.le_refl _, hX, fun x w' e => (nomatch e), fun Ψ k => k⟩
  | cons x w ih =>
    intro b c pl h hX h4 hwl
    by_cases e : x.2 < 4
    · rw [wdn_stop e]
      exact ⟨c, h, FXc.rf _ _, rfl, FXb.rf _ _, Nat.le_refl _, hX, fun y w' e2 => by injection e2 with e3 _; rw [← e3]; exact fun z => by rw [z] at e; exact absurd e (by decide), fun Ψ k => k⟩
    · have hok := hX.2.1
      have hr : x.2 = 4 ∧ okW fo w 0 := by
        unfold okW at hok
        rcases hok with ⟨q, -, -, q2⟩ | ⟨q, -⟩ | ⟨q, -⟩ | ⟨q, -⟩ | ⟨q, -⟩
        · exact ⟨q, q2⟩
        · exact absurd (by rw [q]; decide) e
        · exact absurd (by rw [q]; decide) e
        · exact absurd (by rw [q]; decide) e
        · exact absurd (by rw [q]; decide) e
      obtain ⟨s, r⟩ := x
      simp only [List.length_cons] at hwl
      obtain ⟨c1, h1, f1, f2, f3, f4, f5⟩ := xq_pop hX h4 (by dsimp only at hr; rw [hr.1]; decide) hr.2
      have e4 : c1.1 4 = -1 := (f1.1 4 (by decide) (by decide) (by decide) (by decide) (by decide) (by decide)).trans h4
      obtain ⟨c2, h2, g1, g2, g3, g4, g5, g6, g7⟩ := ih _ c1 (pl + 1) h1 f4 e4 (by omega)
      rw [wdn_go e]
      refine ⟨c2, h2, f1.trans g1 (by omega), g2.trans f2, f3.trans g3, by show pl ≤ (wdn 4 S (cCode b s 0 S pl) (pl + 1) w).2.1; omega, g5, g6, fun Ψ k => ?_⟩
      rw [fr_c0, if_pos hr.1]
      have hlen := fr_len base fo w 0 (by omega)
      exact f5 _ Ψ (by omega) (g7 Ψ k)
/-- down to a term: its signs are written, TIMED looks next -/
theorem x_down3 {b c : S9} {S pl0 pl h f hb : Nat} {fo : Bool} {w base : List (Int32 × Int32)} (hbl : base.length ≤ 100) (hwl : w.length ≤ 130) (hX : XQ b c S pl0 pl h f w 0 false fo hb) (hn : noPre w) (hf : fo = true → w ≠ []) (h4 : c.1 4 = -1) :
    ∃ c' h', FXc c c' pl ∧ c'.1 3 = c.1 3 ∧ FXb b (wdn 3 S b pl w).1 S ∧ pl ≤ (wdn 3 S b pl w).2.1 ∧ XQ (wdn 3 S b pl w).1 c' S pl0 (wdn 3 S b pl w).2.1 h' f (wdn 3 S b pl w).2.2 1 false fo hb ∧ (wdn 3 S b pl w).2.2.length ≤ 130 ∧ ∀ Ψ : Int32 → S9 → Prop, MG c' ((10, 0) :: fr base fo (wdn 3 S b pl w).2.2 1) Ψ → MG c (fr base fo w 0) Ψ := by
  rcases okW_top hX.2.1 hn hf with h1 | ⟨s, w', rfl, h1⟩
  · have hst : wdn 3 S b pl w = (b, pl, w) ∧ fr base fo w 0 = (10, 0) :: fr base fo w 1 := by
      cases w with
      | nil =>
        refine ⟨rfl, ?_⟩
        have : fo = false := h1
        rw [fr_n0, fr_n1, this]; rfl
      | cons x w =>
        unfold okW at h1
        rcases h1 with ⟨-, -, e, -⟩ | ⟨-, -, e, -⟩ | ⟨e, -⟩ | ⟨e, -⟩ | ⟨e, -⟩
        · exact absurd e (by decide)
        · exact absurd e (by decide)
        · refine ⟨wdn_stop (by rw [e]; decide), ?_⟩
          rw [fr_c0, fr_c1, if_neg (by rw [e]; decide), if_neg (by rw [e]; decide), if_pos e, if_pos e]
        · refine ⟨wdn_stop (by rw [e]; decide), ?_⟩
          rw [fr_c0, fr_c1, if_neg (by rw [e]; decide), if_neg (by rw [e]; decide), if_neg (by rw [e]; decide), if_pos e, if_neg (by rw [e]; decide), if_pos e]
        · refine ⟨wdn_stop (by rw [e]; decide), ?_⟩
          rw [fr_c0, fr_c1, if_neg (by rw [e]; decide), if_neg (by rw [e]; decide), if_neg (by rw [e]; decide), if_neg (by rw [e]; decide), if_neg (by rw [e]; decide), if_neg (by rw [e]; decide)]
    rw [hst.1, hst.2]
    refine ⟨c, h, FXc.rf _ _, rfl, FXb.rf _ _, Nat.le_refl _, ?_, hwl, fun Ψ k => k⟩
    exact ⟨hX.1, h1, hX.2.2⟩
  · obtain ⟨c1, h2, f1, f2, f3, f4, f5⟩ := xq_pop hX h4 (by decide) h1
    have hst : wdn 3 S (cCode b s 0 S pl) (pl + 1) w' = (cCode b s 0 S pl, pl + 1, w') := by
      cases w' with
      | nil => rfl
      | cons x w' =>
        unfold okW at h1
        rcases h1 with ⟨-, -, e, -⟩ | ⟨-, -, e, -⟩ | ⟨e, -⟩ | ⟨e, -⟩ | ⟨e, -⟩
        · exact absurd e (by decide)
        · exact absurd e (by decide)
        · exact wdn_stop (by rw [e]; decide)
        · exact wdn_stop (by rw [e]; decide)
        · exact wdn_stop (by rw [e]; decide)
    simp only [List.length_cons] at hwl
    rw [wdn_go (by show ¬ (3 : Int32) < 3; decide), hst]
    refine ⟨c1, h2, f1, f2, f3, by show pl ≤ pl + 1; omega, f4, by show w'.length ≤ 130; omega, fun Ψ k => ?_⟩
    rw [fr_c0, if_neg (show ¬ (3 : Int32) = 4 by decide), if_pos rfl]
    have hlen := fr_len base fo w' 1 (by omega)
    have hs : mk s = s := by
      have := hX.2.1
      unfold okW at this
      rcases this with ⟨e, -⟩ | ⟨-, q, -⟩ | ⟨e, -⟩ | ⟨e, -⟩ | ⟨e, -⟩
      · exact absurd e (show ¬ (3 : Int32) = 4 by decide)
      · rcases q with q | q | q <;> (dsimp only at q; rw [q]; decide)
      · exact absurd e (show ¬ (3 : Int32) = 2 by decide)
      · exact absurd e (show ¬ (3 : Int32) = 1 by decide)
      · exact absurd e (show ¬ (3 : Int32) = 0 by decide)
    have := f5 ((10, 0) :: fr base fo w' 1) Ψ (by simp only [List.length_cons]; omega) k
    rw [hs] at this
    exact this
/-- down to a sum -/
theorem x_down2 {b c : S9} {S pl0 pl h f hb : Nat} {fo : Bool} {w base : List (Int32 × Int32)} (hbl : base.length ≤ 100) (hwl : w.length ≤ 130) (hX : XQ b c S pl0 pl h f w 1 false fo hb) (h4 : c.1 4 = -1) :
    ∃ c' h', FXc c c' pl ∧ c'.1 3 = c.1 3 ∧ FXb b (wdn 2 S b pl w).1 S ∧ pl ≤ (wdn 2 S b pl w).2.1 ∧ XQ (wdn 2 S b pl w).1 c' S pl0 (wdn 2 S b pl w).2.1 h' f (wdn 2 S b pl w).2.2 2 false fo hb ∧ (wdn 2 S b pl w).2.2.length ≤ 130 ∧ ∀ Ψ : Int32 → S9 → Prop, MG c' ((8, 0) :: fr base fo (wdn 2 S b pl w).2.2 2) Ψ → MG c (fr base fo w 1) Ψ := by
  have hok := hX.2.1
  cases w with
  | nil =>
    refine ⟨c, h, FXc.rf _ _, rfl, FXb.rf _ _, Nat.le_refl _, ?_, hwl, fun Ψ k => k⟩
    exact ⟨hX.1, hok, hX.2.2⟩
  | cons x w =>
    obtain ⟨s, r⟩ := x
    unfold okW at hok
    rcases hok with ⟨-, -, e, -⟩ | ⟨-, -, e, -⟩ | ⟨e, hs, -, h1⟩ | ⟨e, hs, e9, h1⟩ | ⟨e, hs, h1⟩
    · exact absurd e (by decide)
    · exact absurd e (by decide)
    · dsimp only at e hs
      subst e
      obtain ⟨c1, h2, f1, f2, f3, f4, f5⟩ := xq_pop hX h4 (by decide) h1
      have hst : wdn 2 S (cCode b s 0 S pl) (pl + 1) w = (cCode b s 0 S pl, pl + 1, w) := by
        cases w with
        | nil => rfl
        | cons x w =>
          unfold okW at h1
          rcases h1 with ⟨-, -, e, -⟩ | ⟨-, -, e, -⟩ | ⟨-, -, e, -⟩ | ⟨e, -⟩ | ⟨e, -⟩
          · exact absurd e (by decide)
          · exact absurd e (by decide)
          · exact absurd e (by decide)
          · exact wdn_stop (by rw [e]; decide)
          · exact wdn_stop (by rw [e]; decide)
      simp only [List.length_cons] at hwl
      rw [wdn_go (by show ¬ (2 : Int32) < 2; decide), hst]
      refine ⟨c1, h2, f1, f2, f3, by show pl ≤ pl + 1; omega, f4, by show w.length ≤ 130; omega, fun Ψ k => ?_⟩
      rw [fr_c1, if_pos rfl]
      have hlen := fr_len base fo w 2 (by omega)
      have hms : mk s = s := by rcases hs with q | q <;> (rw [q]; decide)
      have := f5 ((8, 0) :: fr base fo w 2) Ψ (by simp only [List.length_cons]; omega) k
      rw [hms] at this
      exact this
    · dsimp only at e hs
      subst e
      rw [wdn_stop (by show (1 : Int32) < 2; decide)]
      refine ⟨c, h, FXc.rf _ _, rfl, FXb.rf _ _, Nat.le_refl _, ⟨hX.1, Or.inr (Or.inr (Or.inr (Or.inl ⟨rfl, hs, Nat.le_refl 2, h1⟩))), hX.2.2⟩, hwl, fun Ψ k => ?_⟩
      rw [fr_c1, if_neg (show ¬ (1 : Int32) = 2 by decide), if_pos rfl]
      rw [fr_c2, if_pos rfl] at k
      exact k
    · dsimp only at e hs
      subst e
      rw [wdn_stop (by show (0 : Int32) < 2; decide)]
      refine ⟨c, h, FXc.rf _ _, rfl, FXb.rf _ _, Nat.le_refl _, ⟨hX.1, Or.inr (Or.inr (Or.inr (Or.inr ⟨rfl, hs, h1⟩))), hX.2.2⟩, hwl, fun Ψ k => ?_⟩
      rw [fr_c1, if_neg (show ¬ (0 : Int32) = 2 by decide), if_neg (show ¬ (0 : Int32) = 1 by decide)]
      rw [fr_c2, if_neg (show ¬ (0 : Int32) = 1 by decide)] at k
      exact k
/-- down to an expression: a comparison that waits is written; else COMPARED looks and sees none -/
theorem x_down1 {b c : S9} {S pl0 pl h f hb j : Nat} {kd : Int32} {fo : Bool} {w base : List (Int32 × Int32)} (hbl : base.length ≤ 100) (hwl : w.length ≤ 130) (hX : XQ b c S pl0 pl h f w 2 false fo hb) (h4 : wd c j kd) (hk : (¬ kd = 160 ∧ ¬ kd = 161) ∨ ∃ s w', w = (s, 1) :: w') :
    ∃ c' h', FXc c c' pl ∧ c'.1 3 = c.1 3 ∧ FXb b (wdn 1 S b pl w).1 S ∧ pl ≤ (wdn 1 S b pl w).2.1 ∧ XQ (wdn 1 S b pl w).1 c' S pl0 (wdn 1 S b pl w).2.1 h' f (wdn 1 S b pl w).2.2 3 false fo hb ∧ (wdn 1 S b pl w).2.2.length ≤ 130 ∧ ∀ Ψ : Int32 → S9 → Prop, MG c' (fr base fo (wdn 1 S b pl w).2.2 3) Ψ → MG c (fr base fo w 2) Ψ := by
  have hok := hX.2.1
  cases w with
  | nil =>
    refine ⟨c, h, FXc.rf _ _, rfl, FXb.rf _ _, Nat.le_refl _, ⟨hX.1, hok, hX.2.2⟩, hwl, fun Ψ k => ?_⟩
    rcases hk with ⟨k1, k2⟩ | ⟨s, w', e⟩
    · rw [fr_n2]; exact mg_compared0 h4 (by omega) k1 k2 k
    · exact nomatch e
  | cons x w =>
    obtain ⟨s, r⟩ := x
    unfold okW at hok
    rcases hok with ⟨-, -, e, -⟩ | ⟨-, -, e, -⟩ | ⟨-, -, e, -⟩ | ⟨e, hs, -, h1⟩ | ⟨e, hs, h1⟩
    · exact absurd e (by decide)
    · exact absurd e (by decide)
    · exact absurd e (by decide)
    · dsimp only at e hs
      subst e
      obtain ⟨c1, h2, f1, f2, f3, f4, f5⟩ := xq_pop hX h4.2.2.2 (by decide) h1
      have hst : wdn 1 S (cCode b s 0 S pl) (pl + 1) w = (cCode b s 0 S pl, pl + 1, w) := by
        cases w with
        | nil => rfl
        | cons x w =>
          unfold okW at h1
          rcases h1 with ⟨-, -, e, -⟩ | ⟨-, -, e, -⟩ | ⟨-, -, e, -⟩ | ⟨-, -, e, -⟩ | ⟨e, -⟩
          · exact absurd e (by decide)
          · exact absurd e (by decide)
          · exact absurd e (by decide)
          · exact absurd e (by decide)
          · exact wdn_stop (by rw [e]; decide)
      simp only [List.length_cons] at hwl
      rw [wdn_go (by show ¬ (1 : Int32) < 1; decide), hst]
      refine ⟨c1, h2, f1, f2, f3, by show pl ≤ pl + 1; omega, f4, by show w.length ≤ 130; omega, fun Ψ k => ?_⟩
      rw [fr_c2, if_pos rfl]
      have hlen := fr_len base fo w 3 (by omega)
      have hms : mk s = s := by rcases hs with q | q <;> (rw [q]; decide)
      have := f5 (fr base fo w 3) Ψ (by omega) k
      rw [hms] at this
      exact this
    · dsimp only at e hs
      subst e
      rw [wdn_stop (by show (0 : Int32) < 1; decide)]
      refine ⟨c, h, FXc.rf _ _, rfl, FXb.rf _ _, Nat.le_refl _, ⟨hX.1, Or.inr (Or.inr (Or.inr (Or.inr ⟨rfl, hs, h1⟩))), hX.2.2⟩, hwl, fun Ψ k => ?_⟩
      rcases hk with ⟨k1, k2⟩ | ⟨s', w', e⟩
      · rw [fr_c2, if_neg (show ¬ (0 : Int32) = 1 by decide)]
        have hlen := fr_len base fo w 0 (by omega)
        simp only [List.length_cons] at hwl
        rw [fr_c3] at k
        exact mg_compared0 h4 (by simp only [List.length_cons]; omega) k1 k2 k
      · injection e with e1 _
        injection e1 with _ e2
        exact absurd e2 (by decide)
