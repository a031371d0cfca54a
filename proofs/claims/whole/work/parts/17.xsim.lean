/-! ===== expressions, step by step on both sides ===== -/
/-- the state of an expression at a level: w waits, due: a factor must come -/
def XQ (b c : S9) (S pl0 pl h f : Nat) (w : List (Int32 × Int32)) (n : Nat) (due fo : Bool) (hb : Nat) : Prop :=
  XE b c S pl0 pl h ∧ okW fo w n ∧ (b.1 14 = nI (pars w) ∧ c.1 7 = nI (pars w) ∧ pars w ≤ 20) ∧ (b.1 15 = nI f ∧ c.1 9 = nI f ∧ f ≤ 60) ∧
  (pl - pl0) + w.length + (if due then 0 else 1) ≤ 2 * f ∧ h = bins w + (if due then 0 else 1) + hb ∧ h ≤ f ∧ pl ≤ 3000 - w.length ∧ w.length ≤ 3000
def noPre (w : List (Int32 × Int32)) : Prop := ∀ x w', w = x :: w' → x.2 ≠ 4
def XR (b c : S9) (S pl0 pl h f : Nat) (w : List (Int32 × Int32)) (due fo : Bool) (hb : Nat) : Prop := XQ b c S pl0 pl h f w 0 due fo hb ∧ (due = false → noPre w) ∧ b.1 16 = (if due then 1 else 0)
theorem dI_put {x : Int32} {τ : S9} {Φ : S9 → Prop} (h : wp_X11_put x 0 τ Φ) : wp_X11_doInner 13 x τ Φ := by
  unfold wp_X11_doInner
  exact br_f (by decide) (br_f (by decide) (br_f (by decide) (br_f (by decide) (br_f (by decide) (br_f (by decide) (br_f (by decide) (br_f (by decide) (br_f (by decide) h))))))))
theorem dI_timed {x : Int32} {τ : S9} {Φ : S9 → Prop} (h : wp_X11_sees 42 τ (fun r16 σ18 => (r16 = 0 → wp_X11_sees 47 σ18 (fun r18 σ20 => (r18 = 0 → wp_X11_sees 37 σ20 (fun r20 σ22 => (r20 = 0 → wp_X11_joined 0 11 10 σ22 (fun σ23 => Φ σ23)) ∧ (¬ r20 = 0 → wp_X11_joined 1 11 10 σ22 (fun σ24 => Φ σ24)))) ∧ (¬ r18 = 0 → wp_X11_joined 1 11 10 σ20 (fun σ21 => Φ σ21)))) ∧ (¬ r16 = 0 → wp_X11_joined 1 11 10 σ18 (fun σ19 => Φ σ19)))) : wp_X11_doInner 10 x τ Φ := by
  unfold wp_X11_doInner
  exact br_f (by decide) (br_f (by decide) (br_f (by decide) (br_f (by decide) (br_f (by decide) (br_f (by decide) (br_t rfl h))))))
theorem dI_summed {x : Int32} {τ : S9} {Φ : S9 → Prop} (h : wp_X11_sees 43 τ (fun r10 σ11 => (r10 = 0 → wp_X11_sees 45 σ11 (fun r12 σ13 => (r12 = 0 → wp_X11_joined 0 9 8 σ13 (fun σ14 => Φ σ14)) ∧ (¬ r12 = 0 → wp_X11_joined 1 9 8 σ13 (fun σ15 => Φ σ15)))) ∧ (¬ r10 = 0 → wp_X11_joined 1 9 8 σ11 (fun σ12 => Φ σ12)))) : wp_X11_doInner 8 x τ Φ := by
  unfold wp_X11_doInner
  exact br_f (by decide) (br_f (by decide) (br_f (by decide) (br_f (by decide) (br_t rfl h))))
theorem dI_compared {x : Int32} {τ : S9} {Φ : S9 → Prop} (h : wp_X11_sees 60 τ (fun r4 σ4 => (r4 = 0 → wp_X11_sees 61 σ4 (fun r6 σ6 => (r6 = 0 → wp_X11_joined 0 7 0 σ6 (fun σ7 => Φ σ7)) ∧ (¬ r6 = 0 → wp_X11_joined 1 7 0 σ6 (fun σ8 => Φ σ8)))) ∧ (¬ r4 = 0 → wp_X11_joined 1 7 0 σ4 (fun σ5 => Φ σ5)))) : wp_X11_doInner 6 x τ Φ := by
  unfold wp_X11_doInner
  exact br_f (by decide) (br_f (by decide) (br_t rfl h))
theorem dI_term {x : Int32} {τ : S9} {Φ : S9 → Prop} (h : wp_X11_come 10 0 τ (fun σ16 => wp_X11_come 11 0 σ16 (fun σ17 => Φ σ17))) : wp_X11_doInner 9 x τ Φ := by
  unfold wp_X11_doInner
  exact br_f (by decide) (br_f (by decide) (br_f (by decide) (br_f (by decide) (br_f (by decide) (br_t rfl h)))))
theorem dI_sum {x : Int32} {τ : S9} {Φ : S9 → Prop} (h : wp_X11_come 8 0 τ (fun σ16 => wp_X11_come 9 0 σ16 (fun σ17 => Φ σ17))) : wp_X11_doInner 7 x τ Φ := by
  unfold wp_X11_doInner
  exact br_f (by decide) (br_f (by decide) (br_f (by decide) (br_t rfl h)))
theorem dI_expr {x : Int32} {τ : S9} {Φ : S9 → Prop} (h : wp_X11_come 6 0 τ (fun σ16 => wp_X11_come 7 0 σ16 (fun σ17 => Φ σ17))) : wp_X11_doInner 5 x τ Φ := by
  unfold wp_X11_doInner
  exact br_f (by decide) (br_t rfl h)
theorem dI_sign {x : Int32} {τ : S9} {Φ : S9 → Prop} (h : wp_X11_expect (i2c x) τ (fun σ1 => Φ σ1)) : wp_X11_doInner 4 x τ Φ := by
  unfold wp_X11_doInner
  exact br_t rfl h
theorem dI_factor {x : Int32} {τ : S9} {Φ : S9 → Prop} (h : wp_X11_factor τ (fun σ1 => Φ σ1)) : wp_X11_doInner 11 x τ Φ := by
  unfold wp_X11_doInner
  exact br_f (by decide) (br_f (by decide) (br_f (by decide) (br_f (by decide) (br_f (by decide) (br_f (by decide) (br_f (by decide) (br_t rfl h)))))))
theorem dI_close {x : Int32} {τ : S9} {Φ : S9 → Prop} (h : wp_X11_expect 41 τ (fun σ26 => ∀ σ27 : S9, σ27 = sF σ26 7 (σ26.1 7 - 1) → Φ σ27)) : wp_X11_doInner 12 x τ Φ := by
  unfold wp_X11_doInner
  exact br_f (by decide) (br_f (by decide) (br_f (by decide) (br_f (by decide) (br_f (by decide) (br_f (by decide) (br_f (by decide) (br_f (by decide) (br_t rfl h))))))))
theorem s_joined0 {c τ : S9} {l : List (Int32 × Int32)} {a b : Int32} {Φ : S9 → Prop} (h : St c l τ) (k : ∀ τ', St c l τ' → Φ τ') : wp_X11_joined 0 a b τ Φ := by
  unfold wp_X11_joined
  exact br_t rfl (k τ h)
theorem s_joined1 {c τ : S9} {l : List (Int32 × Int32)} {t more s : Int32} {j : Nat} {Φ : S9 → Prop} (h : St c l τ) (h3 : c.1 3 = nI j) (hj : j < 3001) (hk : c.2.1 1 j = 100 + s) (hl : l.length + 3 < 4000)
    (k : ∀ τ', St (sF c 3 (nI (j + 1))) ((t, 0) :: (13, s) :: (if more = 0 then l else (more, 0) :: l)) τ' → Φ τ') : wp_X11_joined 1 t more τ Φ := by
  unfold wp_X11_joined
  refine br_f (by decide) ?_
  have e3 : τ.1 3 = nI j := by rw [St_1 h (show (3 : Nat) ≠ 5 by decide), h3]
  have r1 : τ.2.1 1 = c.2.1 1 := St_2 h (by decide) (by decide)
  rw [e3, nI_clamp (by omega), r1, hk, nI_1, show (100 : Int32) + s - 100 = s by rw [Int32.add_comm, Int32.add_sub_cancel]]
  refine ⟨pk_in j 3002 (by omega), nm_e (nm_e ?_)⟩
  have h' := St_sF h (show (3 : Nat) ≠ 5 by decide) (nI (j + 1))
  by_cases e : more = 0
  · rw [if_pos e] at k
    refine br_t e ?_
    unfold wp_X11_joined_b39
    exact s_come h' (by omega) (fun τ1 h1 => s_come h1 (by simp only [List.length_cons]; omega) k)
  · rw [if_neg e] at k
    refine br_f e (s_come h' (by omega) (fun τ0 h0 => ?_))
    unfold wp_X11_joined_b39
    exact s_come h0 (by simp only [List.length_cons]; omega) (fun τ1 h1 => s_come h1 (by simp only [List.length_cons]; omega) k)
/-- the word at hand: its place in the list, its kind -/
def wd (c : S9) (j : Nat) (kd : Int32) : Prop := c.1 3 = nI j ∧ j < 3001 ∧ c.2.1 1 j = kd ∧ c.1 4 = -1
theorem add100 {a b : Int32} : (100 + a = 100 + b) ↔ a = b := by
  constructor
  · intro h
    have := congrArg (fun x => x - 100) h
    simpa [Int32.add_comm, Int32.add_sub_cancel] using this
  · intro h; rw [h]
theorem mg_timed0 {c : S9} {l : List (Int32 × Int32)} {j : Nat} {kd : Int32} {Ψ : Int32 → S9 → Prop} (hw : wd c j kd) (hl : l.length < 3900) (h1 : ¬ kd = 142) (h2 : ¬ kd = 147) (h3 : ¬ kd = 137) (k : MG c l Ψ) : MG c ((10, 0) :: l) Ψ := by
  obtain ⟨w1, w2, w3, w4⟩ := hw
  refine mg_in w4 (by omega) (Or.inr ⟨by decide, by decide⟩) (fun τ K h kk => dI_timed ?_) k
  refine s_sees h w1 (by omega) (fun e => absurd (w3.symm.trans e) h1) (fun _ => br_t rfl ?_)
  refine s_sees h w1 (by omega) (fun e => absurd (w3.symm.trans e) h2) (fun _ => br_t rfl ?_)
  refine s_sees h w1 (by omega) (fun e => absurd (w3.symm.trans e) h3) (fun _ => br_t rfl ?_)
  exact s_joined0 h kk
theorem mg_summed0 {c : S9} {l : List (Int32 × Int32)} {j : Nat} {kd : Int32} {Ψ : Int32 → S9 → Prop} (hw : wd c j kd) (hl : l.length < 3900) (h1 : ¬ kd = 143) (h2 : ¬ kd = 145) (k : MG c l Ψ) : MG c ((8, 0) :: l) Ψ := by
  obtain ⟨w1, w2, w3, w4⟩ := hw
  refine mg_in w4 (by omega) (Or.inr ⟨by decide, by decide⟩) (fun τ K h kk => dI_summed ?_) k
  refine s_sees h w1 (by omega) (fun e => absurd (w3.symm.trans e) h1) (fun _ => br_t rfl ?_)
  refine s_sees h w1 (by omega) (fun e => absurd (w3.symm.trans e) h2) (fun _ => br_t rfl ?_)
  exact s_joined0 h kk
theorem mg_compared0 {c : S9} {l : List (Int32 × Int32)} {j : Nat} {kd : Int32} {Ψ : Int32 → S9 → Prop} (hw : wd c j kd) (hl : l.length < 3900) (h1 : ¬ kd = 160) (h2 : ¬ kd = 161) (k : MG c l Ψ) : MG c ((6, 0) :: l) Ψ := by
  obtain ⟨w1, w2, w3, w4⟩ := hw
  refine mg_in w4 (by omega) (Or.inr ⟨by decide, by decide⟩) (fun τ K h kk => dI_compared ?_) k
  refine s_sees h w1 (by omega) (fun e => absurd (w3.symm.trans e) h1) (fun _ => br_t rfl ?_)
  refine s_sees h w1 (by omega) (fun e => absurd (w3.symm.trans e) h2) (fun _ => br_t rfl ?_)
  exact s_joined0 h kk
theorem mg_timed1 {c : S9} {l : List (Int32 × Int32)} {j : Nat} {s : Int32} {Ψ : Int32 → S9 → Prop} (hw : wd c j (100 + s)) (hl : l.length < 3900) (hs : s = 42 ∨ s = 47 ∨ s = 37) (k : MG (sF c 3 (nI (j + 1))) ((11, 0) :: (13, s) :: (10, 0) :: l) Ψ) : MG c ((10, 0) :: l) Ψ := by
  obtain ⟨w1, w2, w3, w4⟩ := hw
  refine mg_in w4 (by omega) (Or.inr ⟨by decide, by decide⟩) (fun τ K h kk => dI_timed ?_) k
  have go : wp_X11_joined 1 11 10 τ (fun σ => K σ) := s_joined1 (s := s) h w1 (by omega) w3 (by omega) kk
  refine s_sees h w1 (by omega) (fun e => br_f (by decide) go) (fun n1 => br_t rfl ?_)
  refine s_sees h w1 (by omega) (fun e => br_f (by decide) go) (fun n2 => br_t rfl ?_)
  refine s_sees h w1 (by omega) (fun e => br_f (by decide) go) (fun n3 => br_t rfl ?_)
  rw [w3] at n1 n2 n3
  rcases hs with e | e | e
  · exact absurd (by rw [e]) n1
  · exact absurd (by rw [e]) n2
  · exact absurd (by rw [e]) n3
theorem mg_term {c : S9} {l : List (Int32 × Int32)} {Ψ : Int32 → S9 → Prop} (h4 : c.1 4 = -1) (hl : l.length < 3900) (k : MG c ((11, 0) :: (10, 0) :: l) Ψ) : MG c ((9, 0) :: l) Ψ :=
  mg_in h4 (by omega) (Or.inr ⟨by decide, by decide⟩) (fun τ K h kk => dI_term (s_come h (by omega) (fun τ1 h1 => s_come h1 (by simp only [List.length_cons]; omega) kk))) k
theorem mg_sum {c : S9} {l : List (Int32 × Int32)} {Ψ : Int32 → S9 → Prop} (h4 : c.1 4 = -1) (hl : l.length < 3895) (k : MG c ((11, 0) :: (10, 0) :: (8, 0) :: l) Ψ) : MG c ((7, 0) :: l) Ψ :=
  mg_in h4 (by omega) (Or.inr ⟨by decide, by decide⟩) (fun τ K h kk => dI_sum (s_come h (by omega) (fun τ1 h1 => s_come h1 (by simp only [List.length_cons]; omega) kk))) (mg_term h4 (by simp only [List.length_cons]; omega) k)
theorem mg_expr {c : S9} {l : List (Int32 × Int32)} {Ψ : Int32 → S9 → Prop} (h4 : c.1 4 = -1) (hl : l.length < 3890) (k : MG c ((11, 0) :: (10, 0) :: (8, 0) :: (6, 0) :: l) Ψ) : MG c ((5, 0) :: l) Ψ :=
  mg_in h4 (by omega) (Or.inr ⟨by decide, by decide⟩) (fun τ K h kk => dI_expr (s_come h (by omega) (fun τ1 h1 => s_come h1 (by simp only [List.length_cons]; omega) kk))) (mg_sum h4 (by simp only [List.length_cons]; omega) k)
theorem mg_summed1 {c : S9} {l : List (Int32 × Int32)} {j : Nat} {s : Int32} {Ψ : Int32 → S9 → Prop} (hw : wd c j (100 + s)) (hl : l.length < 3890) (hs : s = 43 ∨ s = 45) (k : MG (sF c 3 (nI (j + 1))) ((11, 0) :: (10, 0) :: (13, s) :: (8, 0) :: l) Ψ) : MG c ((8, 0) :: l) Ψ := by
  obtain ⟨w1, w2, w3, w4⟩ := hw
  refine mg_in w4 (by omega) (Or.inr ⟨by decide, by decide⟩) (fun τ K h kk => dI_summed ?_) (mg_term (c := sF c 3 (nI (j + 1))) (l := (13, s) :: (8, 0) :: l) w4 (by simp only [List.length_cons]; omega) k)
  have go : wp_X11_joined 1 9 8 τ (fun σ => K σ) := s_joined1 (s := s) h w1 (by omega) w3 (by omega) kk
  refine s_sees h w1 (by omega) (fun e => br_f (by decide) go) (fun n1 => br_t rfl ?_)
  refine s_sees h w1 (by omega) (fun e => br_f (by decide) go) (fun n2 => br_t rfl ?_)
  rw [w3] at n1 n2
  rcases hs with e | e
  · exact absurd (by rw [e]) n1
  · exact absurd (by rw [e]) n2
theorem mg_compared1 {c : S9} {l : List (Int32 × Int32)} {j : Nat} {s : Int32} {Ψ : Int32 → S9 → Prop} (hw : wd c j (100 + s)) (hl : l.length < 3890) (hs : s = 60 ∨ s = 61) (k : MG (sF c 3 (nI (j + 1))) ((11, 0) :: (10, 0) :: (8, 0) :: (13, s) :: l) Ψ) : MG c ((6, 0) :: l) Ψ := by
  obtain ⟨w1, w2, w3, w4⟩ := hw
  refine mg_in w4 (by omega) (Or.inr ⟨by decide, by decide⟩) (fun τ K h kk => dI_compared ?_) (mg_sum (c := sF c 3 (nI (j + 1))) (l := (13, s) :: l) w4 (by simp only [List.length_cons]; omega) k)
  have go : wp_X11_joined 1 7 0 τ (fun σ => K σ) := s_joined1 (s := s) h w1 (by omega) w3 (by omega) kk
  refine s_sees h w1 (by omega) (fun e => br_f (by decide) go) (fun n1 => br_t rfl ?_)
  refine s_sees h w1 (by omega) (fun e => br_f (by decide) go) (fun n2 => br_t rfl ?_)
  rw [w3] at n1 n2
  rcases hs with e | e
  · exact absurd (by rw [e]) n1
  · exact absurd (by rw [e]) n2
/-- a sign that waits is written down, and put -/
theorem xq_emit {b c : S9} {S pl0 pl h f hb n : Nat} {fo : Bool} {s r : Int32} {w : List (Int32 × Int32)} (hX : XQ b c S pl0 pl h f ((s, r) :: w) n false fo hb) (h4 : c.1 4 = -1) (hr : ¬ r = 0) :
    ∃ c', (FrP c c' ∧ FXc c c' pl) ∧ XE (cCode b s 0 S pl) c' S pl0 (pl + 1) (bins w + 1 + hb) ∧ ∀ (l : List (Int32 × Int32)) (Ψ : Int32 → S9 → Prop), l.length < 3900 → MG c' l Ψ → MG c ((13, mk s) :: l) Ψ := by
  obtain ⟨x1, x2, x3, x4, x5, x6, x7, x8, x9⟩ := hX
  simp only [List.length_cons, Bool.false_eq_true, if_false] at x5 x6 x8
  have base : okS s ∧ need (mk s) h ∧ hstep (mk s) h = bins w + 1 + hb := by
    unfold okW at x2
    unfold bins at x6
    rcases x2 with ⟨e, hs, -, -⟩ | ⟨e, hs, -, -⟩ | ⟨e, hs, -, -⟩ | ⟨e, hs, -, -⟩ | ⟨e, -, -⟩
    · dsimp only at e hs x6
      rw [if_pos (Or.inr e)] at x6
      have key : ∀ s : Int32, s = 126 ∨ s = 64 → okS s ∧ isUn (mk s) ∧ ¬ isAt (mk s) := by
        intro s hs
        rcases hs with rfl | rfl
        · exact ⟨by unfold okS; decide, Or.inl (by decide), fun q => by rcases q with q | q | q <;> exact absurd q (by decide)⟩
        · exact ⟨by unfold okS; decide, Or.inr (by decide), fun q => by rcases q with q | q | q <;> exact absurd q (by decide)⟩
      obtain ⟨k1, k2, k3⟩ := key s hs
      refine ⟨k1, ⟨fun _ => by omega, fun _ z => absurd k2 z⟩, ?_⟩
      unfold hstep; rw [if_neg k3, if_pos k2]; omega
    · dsimp only at e hs x6
      rw [if_neg (by rw [e]; decide)] at x6
      have key : ∀ s : Int32, s = 42 ∨ s = 47 ∨ s = 37 → okS s ∧ ¬ isUn (mk s) ∧ ¬ isAt (mk s) := by
        intro s hs
        rcases hs with rfl | rfl | rfl <;> exact ⟨by unfold okS; decide, fun q => by rcases q with q | q <;> exact absurd q (by decide), fun q => by rcases q with q | q | q <;> exact absurd q (by decide)⟩
      obtain ⟨k1, k2, k3⟩ := key s hs
      refine ⟨k1, ⟨fun z => absurd z k2, fun _ _ => by omega⟩, ?_⟩
      unfold hstep; rw [if_neg k3, if_neg k2]; omega
    · dsimp only at e hs x6
      rw [if_neg (by rw [e]; decide)] at x6
      have key : ∀ s : Int32, s = 43 ∨ s = 45 → okS s ∧ ¬ isUn (mk s) ∧ ¬ isAt (mk s) := by
        intro s hs
        rcases hs with rfl | rfl <;> exact ⟨by unfold okS; decide, fun q => by rcases q with q | q <;> exact absurd q (by decide), fun q => by rcases q with q | q | q <;> exact absurd q (by decide)⟩
      obtain ⟨k1, k2, k3⟩ := key s hs
      refine ⟨k1, ⟨fun z => absurd z k2, fun _ _ => by omega⟩, ?_⟩
      unfold hstep; rw [if_neg k3, if_neg k2]; omega
    · dsimp only at e hs x6
      rw [if_neg (by rw [e]; decide)] at x6
      have key : ∀ s : Int32, s = 60 ∨ s = 61 → okS s ∧ ¬ isUn (mk s) ∧ ¬ isAt (mk s) := by
        intro s hs
        rcases hs with rfl | rfl <;> exact ⟨by unfold okS; decide, fun q => by rcases q with q | q <;> exact absurd q (by decide), fun q => by rcases q with q | q | q <;> exact absurd q (by decide)⟩
      obtain ⟨k1, k2, k3⟩ := key s hs
      refine ⟨k1, ⟨fun z => absurd z k2, fun _ _ => by omega⟩, ?_⟩
      unfold hstep; rw [if_neg k3, if_neg k2]; omega
    · exact absurd e hr
  obtain ⟨b1, b2, b3⟩ := base
  have hbw : bins w + 1 + hb ≤ h := by
    unfold bins at x6; split at x6 <;> omega
  obtain ⟨c', q1, q2, q3⟩ := xe_put (s := s) (v := 0) x1 b1 (by omega) (by omega) (by omega) b2 (by omega) (fun _ => ⟨0, by omega, rfl⟩)
  rw [b3] at q2
  exact ⟨c', q1, q2, fun l Ψ hl k => mg_in h4 (by omega) (Or.inr ⟨by decide, by decide⟩) (fun τ K hτ kk => dI_put (q3 l τ K hτ kk)) k⟩
