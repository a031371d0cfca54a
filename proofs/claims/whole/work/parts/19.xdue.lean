/-! ===== a word of an expression where a factor must come ===== -/
def isSg (p : Nat) : Prop := 0 < p ∧ p < 256 ∧ ¬ (48 ≤ p ∧ p ≤ 57) ∧ ¬ (65 ≤ p ∧ p ≤ 90) ∧ ¬ (97 ≤ p ∧ p ≤ 122)
/-- a word as the class and as the reference have it -/
def WK (x kd v : Int32) (num : Int64) : Prop :=
  (x = 0 ∧ kd = 0) ∨ (x = 48 ∧ kd = 1 ∧ v = num.toInt32 ∧ lg_cmp num 2147483647 ≤ 0) ∨ (x = 48 ∧ kd = 2 ∧ ¬ lg_cmp num 2147483647 ≤ 0) ∨
  (∃ p : Nat, p < 26 ∧ x = nI (97 + p) ∧ kd = 3 ∧ v = nI p) ∨ (∃ p : Nat, p < 26 ∧ x = nI (65 + p) ∧ kd = 4 ∧ v = nI p) ∨ ∃ p : Nat, isSg p ∧ x = nI p ∧ kd = nI (100 + p)
theorem wk_sg {x kd v : Int32} {num : Int64} (h : WK x kd v num) (p : Nat) (hp : isSg p) : kd = nI (100 + p) ↔ x = nI p := by
  obtain ⟨p1, p2, p3, p4, p5⟩ := hp
  rcases h with ⟨rfl, rfl⟩ | ⟨rfl, rfl, -⟩ | ⟨rfl, rfl, -⟩ | ⟨q, hq, rfl, rfl, -⟩ | ⟨q, hq, rfl, rfl, -⟩ | ⟨q, ⟨q1, q2, q3, q4, q5⟩, rfl, rfl⟩
  · rw [show (0 : Int32) = nI 0 from rfl, nI_inj (by omega) (by omega), nI_inj (by omega) (by omega)]; omega
  · rw [show (1 : Int32) = nI 1 from rfl, show (48 : Int32) = nI 48 from rfl, nI_inj (by omega) (by omega), nI_inj (by omega) (by omega)]; omega
  · rw [show (2 : Int32) = nI 2 from rfl, show (48 : Int32) = nI 48 from rfl, nI_inj (by omega) (by omega), nI_inj (by omega) (by omega)]; omega
  · rw [show (3 : Int32) = nI 3 from rfl, nI_inj (by omega) (by omega), nI_inj (by omega) (by omega)]; omega
  · rw [show (4 : Int32) = nI 4 from rfl, nI_inj (by omega) (by omega), nI_inj (by omega) (by omega)]; omega
  · rw [nI_inj (by omega) (by omega), nI_inj (by omega) (by omega)]; omega
theorem wk_num {x kd v : Int32} {num : Int64} (h : WK x kd v num) : x = 48 ↔ kd = 1 ∨ kd = 2 := by
  rcases h with ⟨rfl, rfl⟩ | ⟨rfl, rfl, -⟩ | ⟨rfl, rfl, -⟩ | ⟨q, hq, rfl, rfl, -⟩ | ⟨q, hq, rfl, rfl, -⟩ | ⟨q, ⟨q1, q2, q3, q4, q5⟩, rfl, rfl⟩
  · decide
  · decide
  · decide
  · refine ⟨fun e => ?_, fun e => absurd e (by decide)⟩
    rw [show (48 : Int32) = nI 48 from rfl, nI_inj (by omega) (by omega)] at e; omega
  · refine ⟨fun e => ?_, fun e => absurd e (by decide)⟩
    rw [show (48 : Int32) = nI 48 from rfl, nI_inj (by omega) (by omega)] at e; omega
  · rw [show (48 : Int32) = nI 48 from rfl, show (1 : Int32) = nI 1 from rfl, show (2 : Int32) = nI 2 from rfl, nI_inj (by omega) (by omega), nI_inj (by omega) (by omega), nI_inj (by omega) (by omega)]; omega
theorem wk_name {x kd v : Int32} {num : Int64} (h : WK x kd v num) : (¬ x < 97 ∧ ¬ 122 < x) ↔ kd = 3 := by
  rcases h with ⟨rfl, rfl⟩ | ⟨rfl, rfl, -⟩ | ⟨rfl, rfl, -⟩ | ⟨q, hq, rfl, rfl, -⟩ | ⟨q, hq, rfl, rfl, -⟩ | ⟨q, ⟨q1, q2, q3, q4, q5⟩, rfl, rfl⟩
  · decide
  · decide
  · decide
  · rw [show (97 : Int32) = nI 97 from rfl, show (122 : Int32) = nI 122 from rfl, nI_ltI (by omega) (by omega), nI_ltI (by omega) (by omega)]
    exact ⟨fun _ => rfl, fun _ => by omega⟩
  · rw [show (97 : Int32) = nI 97 from rfl, show (122 : Int32) = nI 122 from rfl, nI_ltI (by omega) (by omega), nI_ltI (by omega) (by omega)]
    exact ⟨fun z => by omega, fun z => absurd z (by decide)⟩
  · rw [show (97 : Int32) = nI 97 from rfl, show (122 : Int32) = nI 122 from rfl, show (3 : Int32) = nI 3 from rfl, nI_ltI (by omega) (by omega), nI_ltI (by omega) (by omega), nI_inj (by omega) (by omega)]
    omega
theorem wk_proc {x kd v : Int32} {num : Int64} (h : WK x kd v num) : (¬ x < 65 ∧ ¬ 90 < x) ↔ kd = 4 := by
  rcases h with ⟨rfl, rfl⟩ | ⟨rfl, rfl, -⟩ | ⟨rfl, rfl, -⟩ | ⟨q, hq, rfl, rfl, -⟩ | ⟨q, hq, rfl, rfl, -⟩ | ⟨q, ⟨q1, q2, q3, q4, q5⟩, rfl, rfl⟩
  · decide
  · decide
  · decide
  · rw [show (65 : Int32) = nI 65 from rfl, show (90 : Int32) = nI 90 from rfl, nI_ltI (by omega) (by omega), nI_ltI (by omega) (by omega)]
    exact ⟨fun z => by omega, fun z => absurd z (by decide)⟩
  · rw [show (65 : Int32) = nI 65 from rfl, show (90 : Int32) = nI 90 from rfl, nI_ltI (by omega) (by omega), nI_ltI (by omega) (by omega)]
    exact ⟨fun _ => rfl, fun _ => by omega⟩
  · rw [show (65 : Int32) = nI 65 from rfl, show (90 : Int32) = nI 90 from rfl, show (4 : Int32) = nI 4 from rfl, nI_ltI (by omega) (by omega), nI_ltI (by omega) (by omega), nI_inj (by omega) (by omega)]
    omega
theorem wk_zero {x kd v : Int32} {num : Int64} (h : WK x kd v num) : x = 0 ↔ kd = 0 := by
  rcases h with ⟨rfl, rfl⟩ | ⟨rfl, rfl, -⟩ | ⟨rfl, rfl, -⟩ | ⟨q, hq, rfl, rfl, -⟩ | ⟨q, hq, rfl, rfl, -⟩ | ⟨q, ⟨q1, q2, q3, q4, q5⟩, rfl, rfl⟩
  · decide
  · decide
  · decide
  · refine ⟨fun e => ?_, fun e => absurd e (by decide)⟩
    rw [show (0 : Int32) = nI 0 from rfl, nI_inj (by omega) (by omega)] at e; omega
  · refine ⟨fun e => ?_, fun e => absurd e (by decide)⟩
    rw [show (0 : Int32) = nI 0 from rfl, nI_inj (by omega) (by omega)] at e; omega
  · rw [show (0 : Int32) = nI 0 from rfl, nI_inj (by omega) (by omega), nI_inj (by omega) (by omega)]; omega
def xTh (base : List (Int32 × Int32)) (fo : Bool) (w : List (Int32 × Int32)) (due : Bool) : List (Int32 × Int32) := if due then (11, 0) :: fr base fo w 0 else fr base fo w 0
def FF (c c1 : S9) : Prop := (c1.1 0 = c.1 0 ∧ c1.1 1 = c.1 1 ∧ c1.1 11 = c.1 11 ∧ c1.1 16 = c.1 16 ∧ c1.1 22 = c.1 22) ∧ c1.2.1 0 = c.2.1 0 ∧ c1.2.1 24 = c.2.1 24
theorem FF.rf (c : S9) : FF c c := ⟨⟨rfl, rfl, rfl, rfl, rfl⟩, rfl, rfl⟩
theorem FF.trans {a b c : S9} (h1 : FF a b) (h2 : FF b c) : FF a c :=
  ⟨⟨h2.1.1.trans h1.1.1, h2.1.2.1.trans h1.1.2.1, h2.1.2.2.1.trans h1.1.2.2.1, h2.1.2.2.2.1.trans h1.1.2.2.2.1, h2.1.2.2.2.2.trans h1.1.2.2.2.2⟩, h2.2.1.trans h1.2.1, h2.2.2.trans h1.2.2⟩
theorem FXc.ff {c c1 : S9} {pl : Nat} (h : FXc c c1 pl) : FF c c1 := by
  have q : ∀ k, k ≠ 3 ∧ k ≠ 7 ∧ k ≠ 9 ∧ k ≠ 12 ∧ k ≠ 14 ∧ k ≠ 15 → c1.1 k = c.1 k := fun k e => h.1 k e.1 e.2.1 e.2.2.1 e.2.2.2.1 e.2.2.2.2.1 e.2.2.2.2.2
  have r : ∀ k, k ≠ 12 ∧ k ≠ 13 ∧ k ≠ 16 ∧ k ≠ 17 ∧ k ≠ 18 ∧ k ≠ 19 → c1.2.1 k = c.2.1 k := fun k e => h.2.1 k e.1 e.2.1 e.2.2.1 e.2.2.2.1 e.2.2.2.2.1 e.2.2.2.2.2
  exact ⟨⟨q 0 (by decide), q 1 (by decide), q 11 (by decide), q 16 (by decide), q 22 (by decide)⟩, r 0 (by decide), r 24 (by decide)⟩
/-- the reference comes to a fault at the word at hand -/
def MFail (c : S9) (th : List (Int32 × Int32)) (j : Nat) : Prop := ∃ (c1 : S9) (l1 : List (Int32 × Int32)), FF c c1 ∧ l1.length ≤ 4000 ∧ ∀ Ψ : Int32 → S9 → Prop, MG (sF c1 4 (c.2.1 3 j)) l1 Ψ → MG c th Ψ
def xAcc (b c : S9) (w th : List (Int32 × Int32)) (x : Int32) (S pl0 pl hb j : Nat) (fo : Bool) (base : List (Int32 × Int32)) : Prop :=
  ∃ (b' c' : S9) (w' : List (Int32 × Int32)) (pl' h' f' : Nat) (due' : Bool), XR b' c' S pl0 pl' h' f' w' due' fo hb ∧ pl ≤ pl' ∧ pl' + w'.length ≤ pl + w.length + 1 ∧ FXb b b' S ∧ FXc c c' pl ∧ c'.1 3 = nI (j + 1) ∧
    (∀ (σ : S9) (Φ : Int32 → S9 → Prop), Cs b w σ → (∀ σ', Cs b' w' σ' → Φ 1 σ') → wp_X1_takes x σ Φ) ∧ ∀ Ψ : Int32 → S9 → Prop, MG c' (xTh base fo w' due') Ψ → MG c th Ψ
def xRej (b c : S9) (w th : List (Int32 × Int32)) (x : Int32) (S j : Nat) : Prop :=
  ∃ (b' : S9) (w' : List (Int32 × Int32)), FXb b b' S ∧ (∀ (σ : S9) (Φ : Int32 → S9 → Prop), Cs b w σ → (∀ σ', Cs b' w' σ' → Φ 0 σ') → wp_X1_takes x σ Φ) ∧ MFail c th j
theorem FXc_sF {c : S9} {k : Nat} {v : Int32} {pl : Nat} (h : k = 3 ∨ k = 7 ∨ k = 9) : FXc c (sF c k v) pl :=
  ⟨fun i h1 h2 h3 _ _ _ => pk_un (by rcases h with e | e | e <;> (subst e; assumption)), fun _ _ _ _ _ _ _ => rfl, rfl, fun _ _ => ⟨rfl, rfl⟩⟩
theorem FXb_sF {b : S9} {k : Nat} {v : Int32} {S : Nat} (h : 13 ≤ k ∧ k ≤ 16) : FXb b (sF b k v) S :=
  ⟨fun i hi => pk_un (by omega), fun _ _ _ _ => rfl, rfl, fun _ _ => rfl⟩
theorem s_writeDown {r : Int32} {S pl : Nat} {w : List (Int32 × Int32)} {b σ : S9} {Φ : S9 → Prop} (hS : S < 300) (h4 : b.1 4 = nI (S + 1)) (h9 : b.2.1 9 S = nI pl) (h1 : pl + w.length ≤ 3000) (h2 : w.length ≤ 120) (h3 : ∀ x ∈ w, vp_nar .char x.1 = x.1) (h : Cs b w σ)
    (k : ∀ σ', Cs (wdn r S b pl w).1 (wdn r S b pl w).2.2 σ' → Φ σ') : wp_X1_writeDownTo r σ Φ := ⟨_, s_writeDownTo hS w b pl h4 h9 h1 h2 h3 k σ h⟩
theorem okW_nar {fo : Bool} : ∀ (w : List (Int32 × Int32)) (n : Nat), okW fo w n → ∀ x ∈ w, vp_nar .char x.1 = x.1 := by
  intro w
  induction w with
  | nil => intro n _ x hx; exact nomatch hx
  | cons y w ih =>
    intro n h x hx
    have key : vp_nar .char y.1 = y.1 ∧ ∃ m, okW fo w m := by
      unfold okW at h
      rcases h with ⟨-, q, -, q2⟩ | ⟨-, q, -, q2⟩ | ⟨-, q, -, q2⟩ | ⟨-, q, -, q2⟩ | ⟨-, q, q2⟩
      · exact ⟨by rcases q with q | q <;> (rw [q]; rfl), _, q2⟩
      · exact ⟨by rcases q with q | q | q <;> (rw [q]; rfl), _, q2⟩
      · exact ⟨by rcases q with q | q <;> (rw [q]; rfl), _, q2⟩
      · exact ⟨by rcases q with q | q <;> (rw [q]; rfl), _, q2⟩
      · exact ⟨by rw [q]; rfl, _, q2⟩
    rcases List.mem_cons.mp hx with e | e
    · rw [e]; exact key.1
    · obtain ⟨m, hm⟩ := key.2
      exact ih m hm x e
/-- an operand: written, then the prefixes ahead of it -/
theorem x_atom {b c : S9} {S pl0 pl h f hb j : Nat} {fo : Bool} {w base : List (Int32 × Int32)} {s v : Int32} (hbl : base.length ≤ 100) (hX : XR b c S pl0 pl h f w true fo hb) (hf : f < 60) (hroom : pl + w.length + 1 ≤ 3000) (h3 : c.1 3 = nI j) (h4 : c.1 4 = -1) (hs : s = 48 ∨ s = 97 ∨ s = 35) (hv : s = 97 → ∃ p : Nat, p < 26 ∧ v = nI p) :
    ∃ (b' c' : S9) (w' : List (Int32 × Int32)) (pl' h' : Nat), XR b' c' S pl0 pl' h' (f + 1) w' false fo hb ∧ pl ≤ pl' ∧ pl' + w'.length ≤ pl + w.length + 1 ∧ FXb b b' S ∧ FXc c c' pl ∧ c'.1 3 = nI (j + 1) ∧
      (∀ (σ : S9) (Φ : Int32 → S9 → Prop), Cs (sF b 15 (nI (f + 1))) w σ → (∀ σ', Cs b' w' σ' → Φ 1 σ') → wp_X1_writesOperand s v σ (fun r σ6 => wp_X1_takes_b20 Φ r σ6)) ∧
      (∀ Ψ : Int32 → S9 → Prop, MG c' (fr base fo w' 0) Ψ → ∃ c1, MG c1 (fr base fo w 0) Ψ ∧ ∀ (l : List (Int32 × Int32)) (τ : S9) (K : S9 → Prop), St (sF c 9 (nI (f + 1))) l τ → (∀ τ', St c1 l τ' → K τ') → wp_X11_put (mk s) v τ (fun σ8 => ∀ σ9 : S9, σ9 = sF σ8 3 (σ8.1 3 + 1) → K σ9)) := by
  obtain ⟨⟨x1, x2, x3, x4, x5, x6, x7, x8, x9⟩, -, x16⟩ := hX
  simp only [if_true] at x5 x6 x16
  have hat : isAt (mk s) := by rcases hs with rfl | rfl | rfl <;> first | exact Or.inl (by decide) | exact Or.inr (Or.inl (by decide)) | exact Or.inr (Or.inr (by decide))
  have hnu : ¬ isUn (mk s) := by rcases hs with rfl | rfl | rfl <;> exact fun q => by rcases q with q | q <;> exact absurd q (by decide)
  have hos : okS s := by rcases hs with rfl | rfl | rfl <;> (unfold okS; decide)
  have hst : hstep (mk s) h = h + 1 := by unfold hstep; rw [if_pos hat]
  have x1' : XE (sF b 15 (nI (f + 1))) (sF c 9 (nI (f + 1))) S pl0 pl h := x1
  obtain ⟨c1, ⟨q1, q1'⟩, q2, q3⟩ := xe_put (s := s) (v := v) x1' hos (by omega) (by omega) (by omega) ⟨fun z => absurd z hnu, fun z _ => absurd hat z⟩ (by rw [hst]; omega) hv
  rw [hst] at q2
  obtain ⟨b2, hb2⟩ : ∃ b2, b2 = sF (cCode (sF b 15 (nI (f + 1))) s v S pl) 16 0 := ⟨_, rfl⟩
  have hX2 : XQ b2 (sF c1 3 (nI (j + 1))) S pl0 (pl + 1) (h + 1) (f + 1) w 0 false fo hb := by
    subst hb2
    refine ⟨q2, x2, ⟨x3.1, ?_, x3.2.2⟩, ⟨rfl, ?_, by omega⟩, ?_, ?_, by omega, by omega, by omega⟩
    · show c1.1 7 = _
      rw [q1.1 7 (by decide) (by decide) (by decide)]; exact x3.2.1
    · show c1.1 9 = _
      rw [q1.1 9 (by decide) (by decide) (by decide)]; rfl
    · simp only [Bool.false_eq_true, if_false]; omega
    · simp only [Bool.false_eq_true, if_false]; omega
  have e4 : (sF c1 3 (nI (j + 1))).1 4 = -1 := by
    show c1.1 4 = _
    rw [q1.1 4 (by decide) (by decide) (by decide)]; exact h4
  obtain ⟨c', h', g1, g2, g3, g4, g5, g6, g7⟩ := x_flush (base := base) hbl w b2 _ (pl + 1) (h + 1) hX2 e4 (by omega)
  have k9 : (cCode (sF b 15 (nI (f + 1))) s v S pl).2.1 9 S = nI (pl + 1) := pk_us
  have h16 : (wdn 4 S b2 (pl + 1) w).1.1 16 = 0 ∧ (wdn 4 S b2 (pl + 1) w).2.1 + (wdn 4 S b2 (pl + 1) w).2.2.length = pl + 1 + w.length := by
    have : ∀ (w : List (Int32 × Int32)) (b : S9) (p : Nat), (wdn 4 S b p w).1.1 16 = b.1 16 ∧ (wdn 4 S b p w).2.1 + (wdn 4 S b p w).2.2.length = p + w.length := by
      intro w
      induction w with
      | nil => intro b p; exact ⟨rfl, rfl⟩
      | cons y w ih =>
        intro b p
        by_cases e : y.2 < 4
        · rw [wdn_stop e]; exact ⟨rfl, rfl⟩
        · rw [wdn_go e]
          obtain ⟨i1, i2⟩ := ih (cCode b y.1 0 S p) (p + 1)
          exact ⟨i1, by rw [i2, List.length_cons]; omega⟩
    obtain ⟨i1, i2⟩ := this w b2 (pl + 1)
    refine ⟨i1.trans ?_, i2⟩
    rw [hb2]; rfl
  refine ⟨(wdn 4 S b2 (pl + 1) w).1, c', (wdn 4 S b2 (pl + 1) w).2.2, (wdn 4 S b2 (pl + 1) w).2.1, h', ⟨g5, fun _ => g6, by simp only [Bool.false_eq_true, if_false]; exact h16.1⟩, by omega, by omega, ?_, ?_, ?_, fun σ Φ hσ k => ?_, fun Ψ k => ⟨sF c1 3 (nI (j + 1)), g7 Ψ k, fun l τ K hτ kk => ?_⟩⟩
  · have f1 : FXb b b2 S := by
      rw [hb2]
      exact (FXb_sF (by omega)).trans ((FXb_code _ s v S pl).trans (FXb_sF (by omega)))
    exact f1.trans g3
  · have f1 : FXc c (sF c 9 (nI (f + 1))) pl := FXc_sF (Or.inr (Or.inr rfl))
    have f2 : FXc c1 (sF c1 3 (nI (j + 1))) pl := FXc_sF (Or.inl rfl)
    exact (f1.trans q1' (Nat.le_refl _)).trans (f2.trans g1 (by omega)) (Nat.le_refl _)
  · rw [g2]; rfl
  · unfold wp_X1_writesOperand
    refine s_addCode hσ x1.1.1 x1.1.2.1 x1.1.2.2.1 (by omega) (okS_nar (Or.inl hos)) (fun σ1 h1 => nm_e ?_)
    have h2 : Cs b2 w (sF σ1 16 0) := by rw [hb2]; exact Cs_sF h1 (by decide) 0
    unfold wp_X1_takes_b20
    refine br_f (by decide) (br_t ?_ ?_)
    · rw [Cs_1 h2 (show (16 : Nat) ≠ 13 by decide), hb2]; rfl
    · refine s_writeDown x1.1.2.1 ?_ ?_ (by omega) (by omega) (okW_nar w 0 x2) h2 (fun σ' h' => ⟨rfl, k σ' h'⟩)
      · rw [hb2]; exact x1.1.1
      · rw [hb2]; exact k9
  · refine q3 l τ _ hτ (fun τ1 h1 => nm_e ?_)
    rw [St_1 h1 (show (3 : Nat) ≠ 5 by decide), q1.1 3 (by decide) (by decide) (by decide)]
    show K (sF τ1 3 (c.1 3 + 1))
    rw [h3, nI_1]
    exact kk _ (St_sF h1 (by decide) _)
