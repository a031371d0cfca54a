/-! ===== expressions: how the class's signs stand for the reference's things ===== -/
/-- things below a place: 0 a factor's, 1 a term's (behind TIMED), 2 a sum's (behind SUMMED), 3 an expression's -/
def fr (base : List (Int32 × Int32)) (fo : Bool) : List (Int32 × Int32) → Nat → List (Int32 × Int32)
  | [], 0 => if fo then base else (10, 0) :: (8, 0) :: (6, 0) :: base
  | [], 1 => (8, 0) :: (6, 0) :: base
  | [], 2 => (6, 0) :: base
  | [], _ => base
  | x :: w, 0 => if x.2 = 4 then (13, mk x.1) :: fr base fo w 0 else if x.2 = 3 then (13, x.1) :: (10, 0) :: fr base fo w 1 else if x.2 = 2 then (10, 0) :: (13, x.1) :: (8, 0) :: fr base fo w 2 else if x.2 = 1 then (10, 0) :: (8, 0) :: (13, x.1) :: fr base fo w 3 else (10, 0) :: (8, 0) :: (6, 0) :: (12, 0) :: fr base fo w 0
  | x :: w, 1 => if x.2 = 2 then (13, x.1) :: (8, 0) :: fr base fo w 2 else if x.2 = 1 then (8, 0) :: (13, x.1) :: fr base fo w 3 else (8, 0) :: (6, 0) :: (12, 0) :: fr base fo w 0
  | x :: w, 2 => if x.2 = 1 then (13, x.1) :: fr base fo w 3 else (6, 0) :: (12, 0) :: fr base fo w 0
  | _ :: w, _ => (12, 0) :: fr base fo w 0
/-- the signs that may wait, one above the other -/
def okW (fo : Bool) : List (Int32 × Int32) → Nat → Prop
  | [], 0 => True
  | [], _ => fo = false
  | x :: w, n => (x.2 = 4 ∧ (x.1 = 126 ∨ x.1 = 64) ∧ n = 0 ∧ okW fo w 0) ∨ (x.2 = 3 ∧ (x.1 = 42 ∨ x.1 = 47 ∨ x.1 = 37) ∧ n = 0 ∧ okW fo w 1) ∨ (x.2 = 2 ∧ (x.1 = 43 ∨ x.1 = 45) ∧ n ≤ 1 ∧ okW fo w 2) ∨ (x.2 = 1 ∧ (x.1 = 60 ∨ x.1 = 61) ∧ n ≤ 2 ∧ okW fo w 3) ∨ (x.2 = 0 ∧ x.1 = 40 ∧ okW fo w 0)
/-- how many parentheses, how many signs of two operands wait -/
def pars : List (Int32 × Int32) → Nat
  | [] => 0
  | x :: w => (if x.2 = 0 then 1 else 0) + pars w
def bins : List (Int32 × Int32) → Nat
  | [] => 0
  | x :: w => (if x.2 = 0 ∨ x.2 = 4 then 0 else 1) + bins w
theorem fr_n0 {base : List (Int32 × Int32)} {fo : Bool} : fr base fo [] 0 = if fo then base else (10, 0) :: (8, 0) :: (6, 0) :: base := rfl
theorem fr_n1 {base : List (Int32 × Int32)} {fo : Bool} : fr base fo [] 1 = (8, 0) :: (6, 0) :: base := rfl
theorem fr_n2 {base : List (Int32 × Int32)} {fo : Bool} : fr base fo [] 2 = (6, 0) :: base := rfl
theorem fr_n3 {base : List (Int32 × Int32)} {fo : Bool} : fr base fo [] 3 = base := rfl
theorem fr_c0 {base : List (Int32 × Int32)} {fo : Bool} {x : Int32 × Int32} {w : List (Int32 × Int32)} : fr base fo (x :: w) 0 = if x.2 = 4 then (13, mk x.1) :: fr base fo w 0 else if x.2 = 3 then (13, x.1) :: (10, 0) :: fr base fo w 1 else if x.2 = 2 then (10, 0) :: (13, x.1) :: (8, 0) :: fr base fo w 2 else if x.2 = 1 then (10, 0) :: (8, 0) :: (13, x.1) :: fr base fo w 3 else (10, 0) :: (8, 0) :: (6, 0) :: (12, 0) :: fr base fo w 0 := rfl
theorem fr_c1 {base : List (Int32 × Int32)} {fo : Bool} {x : Int32 × Int32} {w : List (Int32 × Int32)} : fr base fo (x :: w) 1 = if x.2 = 2 then (13, x.1) :: (8, 0) :: fr base fo w 2 else if x.2 = 1 then (8, 0) :: (13, x.1) :: fr base fo w 3 else (8, 0) :: (6, 0) :: (12, 0) :: fr base fo w 0 := rfl
theorem fr_c2 {base : List (Int32 × Int32)} {fo : Bool} {x : Int32 × Int32} {w : List (Int32 × Int32)} : fr base fo (x :: w) 2 = if x.2 = 1 then (13, x.1) :: fr base fo w 3 else (6, 0) :: (12, 0) :: fr base fo w 0 := rfl
theorem fr_c3 {base : List (Int32 × Int32)} {fo : Bool} {x : Int32 × Int32} {w : List (Int32 × Int32)} : fr base fo (x :: w) 3 = (12, 0) :: fr base fo w 0 := rfl
theorem fr_len (base : List (Int32 × Int32)) (fo : Bool) : ∀ (w : List (Int32 × Int32)) (n : Nat), n ≤ 3 → (fr base fo w n).length ≤ base.length + 4 * w.length + 4 := by
  intro w
  induction w with
  | nil =>
    intro n hn
    match n, hn with
    | 0, _ => rw [fr_n0]; cases fo <;> simp
    | 1, _ => rw [fr_n1]; simp
    | 2, _ => rw [fr_n2]; simp
    | 3, _ => rw [fr_n3]; simp
  | cons x w ih =>
    intro n hn
    have h0 := ih 0 (by omega)
    have h1 := ih 1 (by omega)
    have h2 := ih 2 (by omega)
    have h3 := ih 3 (by omega)
    simp only [List.length_cons]
    match n, hn with
    | 0, _ =>
      rw [fr_c0]
      split
      · simp only [List.length_cons]; omega
      · split
        · simp only [List.length_cons]; omega
        · split
          · simp only [List.length_cons]; omega
          · split
            · simp only [List.length_cons]; omega
            · simp only [List.length_cons]; omega
    | 1, _ =>
      rw [fr_c1]
      split
      · simp only [List.length_cons]; omega
      · split
        · simp only [List.length_cons]; omega
        · simp only [List.length_cons]; omega
    | 2, _ =>
      rw [fr_c2]
      split
      · simp only [List.length_cons]; omega
      · simp only [List.length_cons]; omega
    | 3, _ =>
      rw [fr_c3]; simp only [List.length_cons]; omega
/-! heights of what is worked out, mark by mark -/
noncomputable def hstep (m : Int32) (h : Nat) : Nat := @ite _ (isAt m) (Classical.propDecidable _) (h + 1) (@ite _ (isUn m) (Classical.propDecidable _) h (h - 1))
noncomputable def hgt (M : Nat → Int32) (a : Nat) : Nat → Nat
  | 0 => 0
  | n + 1 => hstep (M (a + n)) (hgt M a n)
def need (m : Int32) (h : Nat) : Prop := (isUn m → 1 ≤ h) ∧ (¬ isAt m → ¬ isUn m → 2 ≤ h)
def hok (M : Nat → Int32) (a n : Nat) : Prop := ∀ k, k < n → need (M (a + k)) (hgt M a k) ∧ hgt M a (k + 1) ≤ 60
theorem hgt_congr {M M' : Nat → Int32} {a n : Nat} (h : ∀ k, k < n → M' (a + k) = M (a + k)) : hgt M' a n = hgt M a n := by
  induction n with
  | zero => rfl
  | succ n ih => simp only [hgt, h n (Nat.lt_succ_self n), ih (fun k hk => h k (Nat.lt_succ_of_lt hk))]
theorem hok_congr {M M' : Nat → Int32} {a n : Nat} (h : ∀ k, k < n → M' (a + k) = M (a + k)) (q : hok M a n) : hok M' a n := by
  intro k hk
  rw [h k hk, hgt_congr (fun j hj => h j (by omega)), hgt_congr (n := k + 1) (fun j hj => h j (by omega))]
  exact q k hk
noncomputable def trep (M V : Nat → Int32) (a : Nat) : Nat → List T3 × List Int32
  | 0 => ([], [])
  | n + 1 => tstep (M (a + n)) (V (a + n)) (trep M V a n)
theorem trep_congr {M M' V V' : Nat → Int32} {a n : Nat} (h : ∀ k, k < n → M' (a + k) = M (a + k) ∧ V' (a + k) = V (a + k)) : trep M' V' a n = trep M V a n := by
  induction n with
  | zero => rfl
  | succ n ih => simp only [trep, (h n (Nat.lt_succ_self n)).1, (h n (Nat.lt_succ_self n)).2, ih (fun k hk => h k (Nat.lt_succ_of_lt hk))]
theorem tput_len (s a b : Int32) (ts : List T3) : (tput s a b ts).2.length ≤ ts.length + 1 := by
  unfold tput
  split
  · simp
  · split
    · exact Nat.le_succ _
    · simp
theorem tstep_len (m v : Int32) (s : List T3 × List Int32) : (tstep m v s).1.length ≤ s.1.length + 1 := by
  unfold tstep
  split
  · exact tput_len _ _ _ _
  · split <;> exact tput_len _ _ _ _
theorem trep_len (M V : Nat → Int32) (a n : Nat) : (trep M V a n).1.length ≤ n := by
  induction n with
  | zero => exact Nat.le_refl _
  | succ n ih => exact Nat.le_trans (tstep_len _ _ _) (by omega)
theorem tstep_ws {m v : Int32} {s : List T3 × List Int32} (h : need m s.2.length) : (tstep m v s).2.length = hstep m s.2.length := by
  unfold tstep hstep
  by_cases e : isAt m
  · rw [if_pos e, if_pos e]; rfl
  · rw [if_neg e, if_neg e]
    by_cases e2 : isUn m
    · rw [if_pos e2, if_pos e2]
      have := h.1 e2
      simp only [List.length_cons, List.length_tail]; omega
    · rw [if_neg e2, if_neg e2]
      have := h.2 e e2
      simp only [List.length_cons, List.length_tail]; omega
/-- the code of the step that is being read: S its number, pl0 where it begins, pl how much there is, h how high -/
def XE (b c : S9) (S pl0 pl h : Nat) : Prop :=
  (b.1 4 = nI (S + 1) ∧ S < 300 ∧ b.2.1 9 S = nI pl ∧ c.1 12 = nI pl ∧ pl0 ≤ pl) ∧
  (∀ k, k < pl → c.2.1 12 k = mk (b.2.1 10 k) ∧ c.2.1 13 k = b.2.1 11 k ∧ okS (b.2.1 10 k) ∧ (b.2.1 10 k = 97 → ∃ p : Nat, p < 26 ∧ b.2.1 11 k = nI p)) ∧
  TT c (trep (c.2.1 12) (c.2.1 13) pl0 (pl - pl0)).1 (trep (c.2.1 12) (c.2.1 13) pl0 (pl - pl0)).2 ∧ (trep (c.2.1 12) (c.2.1 13) pl0 (pl - pl0)).2.length = h ∧
  hgt (c.2.1 12) pl0 (pl - pl0) = h ∧ hok (c.2.1 12) pl0 (pl - pl0)
/-- what reading an expression leaves alone -/
def FXb (b b' : S9) (S : Nat) : Prop := (∀ k, k ≤ 12 ∨ 17 ≤ k → b'.1 k = b.1 k) ∧ (∀ k, k ≠ 9 → k ≠ 10 → k ≠ 11 → b'.2.1 k = b.2.1 k) ∧ b'.2.2 = b.2.2 ∧ ∀ i, i ≠ S → b'.2.1 9 i = b.2.1 9 i
def FXc (c c' : S9) (pl : Nat) : Prop := (∀ k, k ≠ 3 → k ≠ 7 → k ≠ 9 → k ≠ 12 → k ≠ 14 → k ≠ 15 → c'.1 k = c.1 k) ∧ (∀ k, k ≠ 12 → k ≠ 13 → k ≠ 16 → k ≠ 17 → k ≠ 18 → k ≠ 19 → c'.2.1 k = c.2.1 k) ∧ c'.2.2 = c.2.2 ∧ ∀ i, i < pl → c'.2.1 12 i = c.2.1 12 i ∧ c'.2.1 13 i = c.2.1 13 i
theorem FXb.rf (b : S9) (S : Nat) : FXb b b S := ⟨fun _ _ => rfl, fun _ _ _ _ => rfl, rfl, fun _ _ => rfl⟩
theorem FXb.trans {a b c : S9} {S : Nat} (h1 : FXb a b S) (h2 : FXb b c S) : FXb a c S :=
  ⟨fun k e => (h2.1 k e).trans (h1.1 k e), fun k e1 e2 e3 => (h2.2.1 k e1 e2 e3).trans (h1.2.1 k e1 e2 e3), h2.2.2.1.trans h1.2.2.1, fun i e => (h2.2.2.2 i e).trans (h1.2.2.2 i e)⟩
theorem FXc.rf (c : S9) (pl : Nat) : FXc c c pl := ⟨fun _ _ _ _ _ _ _ => rfl, fun _ _ _ _ _ _ _ => rfl, rfl, fun _ _ => ⟨rfl, rfl⟩⟩
theorem FXc.trans {a b c : S9} {p q : Nat} (h1 : FXc a b p) (h2 : FXc b c q) (h : p ≤ q) : FXc a c p :=
  ⟨fun k e1 e2 e3 e4 e5 e6 => (h2.1 k e1 e2 e3 e4 e5 e6).trans (h1.1 k e1 e2 e3 e4 e5 e6), fun k e1 e2 e3 e4 e5 e6 => (h2.2.1 k e1 e2 e3 e4 e5 e6).trans (h1.2.1 k e1 e2 e3 e4 e5 e6), h2.2.2.1.trans h1.2.2.1, fun i hi => ⟨(h2.2.2.2 i (by omega)).1.trans (h1.2.2.2 i hi).1, (h2.2.2.2 i (by omega)).2.trans (h1.2.2.2 i hi).2⟩⟩
theorem FXb_code (b : S9) (s v : Int32) (S pl : Nat) : FXb b (cCode b s v S pl) S := by
  refine ⟨fun _ _ => rfl, fun k h1 h2 h3 => ?_, rfl, fun i hi => ?_⟩
  · show va_up (va_up (va_up b.2.1 10 _) 11 _) 9 _ k = _
    rw [vup_ne h1, vup_ne h3, vup_ne h2]
  · show upd (b.2.1 9) S _ i = _
    exact pk_un hi
theorem FXc_of {c c' : S9} {pl : Nat} {m v : Int32} (h : FrP c c') (h1 : c'.2.1 12 = upd (c.2.1 12) pl m) (h2 : c'.2.1 13 = upd (c.2.1 13) pl v) : FXc c c' pl :=
  ⟨fun k _ _ _ e4 e5 e6 => h.1 k e4 e5 e6, h.2.1, h.2.2, fun i hi => by rw [h1, h2, pk_un (by omega), pk_un (by omega)]; exact ⟨rfl, rfl⟩⟩
/-- one mark more, on both sides -/
theorem xe_put {b c : S9} {S pl0 pl h : Nat} {s v : Int32} (hX : XE b c S pl0 pl h) (hs : okS s) (hpl : pl < 3000) (hn : pl - pl0 < 400) (hh : h < 400) (hneed : need (mk s) h) (h60 : hstep (mk s) h ≤ 60) (hv : s = 97 → ∃ p : Nat, p < 26 ∧ v = nI p) :
    ∃ c', (FrP c c' ∧ FXc c c' pl) ∧ XE (cCode b s v S pl) c' S pl0 (pl + 1) (hstep (mk s) h) ∧ ∀ (l : List (Int32 × Int32)) (τ : S9) (Φ : S9 → Prop), St c l τ → (∀ τ', St c' l τ' → Φ τ') → wp_X11_put (mk s) v τ Φ := by
  obtain ⟨⟨x1, x2, x3, x4, x5⟩, x6, x7, x8, x9, x10⟩ := hX
  obtain ⟨c', q1, q2, q3, q4, q5, q6⟩ := s_put (m := mk s) (v := v) x4 (by omega) x7 (by have := trep_len (c.2.1 12) (c.2.1 13) pl0 (pl - pl0); omega) (by omega) (fun z => by rw [x8]; exact hneed.1 z) (fun z1 z2 => by rw [x8]; exact hneed.2 z1 z2)
  have en : pl + 1 - pl0 = (pl - pl0) + 1 := by omega
  have ep : pl0 + (pl - pl0) = pl := by omega
  have cg : ∀ k, k < pl - pl0 → c'.2.1 12 (pl0 + k) = c.2.1 12 (pl0 + k) ∧ c'.2.1 13 (pl0 + k) = c.2.1 13 (pl0 + k) := by
    intro k hk
    rw [q3, q4, pk_un (by omega), pk_un (by omega)]
    exact ⟨rfl, rfl⟩
  have et : trep (c'.2.1 12) (c'.2.1 13) pl0 (pl + 1 - pl0) = tstep (mk s) v (trep (c.2.1 12) (c.2.1 13) pl0 (pl - pl0)) := by
    rw [en]
    show tstep (c'.2.1 12 (pl0 + (pl - pl0))) (c'.2.1 13 (pl0 + (pl - pl0))) _ = _
    rw [trep_congr cg, ep, q3, q4, pk_us, pk_us]
  have eh : hgt (c'.2.1 12) pl0 (pl + 1 - pl0) = hstep (mk s) h := by
    rw [en]
    show hstep (c'.2.1 12 (pl0 + (pl - pl0))) _ = _
    rw [hgt_congr (fun k hk => (cg k hk).1), ep, q3, pk_us, x9]
  refine ⟨c', ⟨q1, FXc_of q1 q3 q4⟩, ⟨⟨x1, x2, ?_, q2, by omega⟩, fun k hk => ?_, ?_, ?_, eh, ?_⟩, q6⟩
  · show upd (b.2.1 9) S _ S = _
    rw [pk_us]
  · show _ = mk (upd (b.2.1 10) pl s k) ∧ _ = upd (b.2.1 11) pl v k ∧ okS (upd (b.2.1 10) pl s k) ∧ (upd (b.2.1 10) pl s k = 97 → ∃ p : Nat, p < 26 ∧ upd (b.2.1 11) pl v k = nI p)
    rw [q3, q4]
    by_cases e : k = pl
    · rw [e, pk_us, pk_us, pk_us, pk_us]; exact ⟨rfl, rfl, hs, hv⟩
    · rw [pk_un e, pk_un e, pk_un e, pk_un e]; exact x6 k (by omega)
  · rw [et]
    have e2 : trep (c.2.1 12) (c.2.1 13) pl0 (pl - pl0) = ((trep (c.2.1 12) (c.2.1 13) pl0 (pl - pl0)).1, (trep (c.2.1 12) (c.2.1 13) pl0 (pl - pl0)).2) := rfl
    rw [e2]; exact q5
  · rw [et, tstep_ws (by rw [x8]; exact hneed), x8]
  · intro k hk
    by_cases e : k = pl - pl0
    · subst e
      rw [hgt_congr (M := c.2.1 12) (fun j hj => (cg j hj).1), x9, ep, q3, pk_us]
      refine ⟨hneed, ?_⟩
      rw [← q3, ← en, eh]; exact h60
    · rw [(cg k (by omega)).1, hgt_congr (M := c.2.1 12) (fun j hj => (cg j (by omega)).1), hgt_congr (M := c.2.1 12) (n := k + 1) (fun j hj => (cg j (by omega)).1)]
      exact x10 k (by omega)
