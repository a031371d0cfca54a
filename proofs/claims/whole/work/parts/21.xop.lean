/-! ===== a word of an expression behind an operand ===== -/
theorem wdn_keeps {r : Int32} {S : Nat} : ∀ (w : List (Int32 × Int32)) (b : S9) (p : Nat), (wdn r S b p w).1.1 = b.1 ∧ (wdn r S b p w).2.1 + (wdn r S b p w).2.2.length = p + w.length ∧ (b.2.1 9 S = nI p → (wdn r S b p w).1.2.1 9 S = nI (wdn r S b p w).2.1) ∧ FXb b (wdn r S b p w).1 S := by
  intro w
  induction w with
  | nil => intro b p; exact ⟨rfl, rfl, fun h => h, FXb.rf _ _⟩
  | cons y w ih =>
    intro b p
    by_cases e : y.2 < r
    · rw [wdn_stop e]; exact ⟨rfl, rfl, fun h => h, FXb.rf _ _⟩
    · rw [wdn_go e]
      obtain ⟨i1, i2, i3, i4⟩ := ih (cCode b y.1 0 S p) (p + 1)
      exact ⟨i1, by rw [i2, List.length_cons]; omega, fun _ => i3 pk_us, (FXb_code b y.1 0 S p).trans i4⟩
theorem s_takesSign {b σ : S9} {w : List (Int32 × Int32)} {x r : Int32} {S pl : Nat} {Φ : Int32 → S9 → Prop} (h : Cs b w σ) (hS : S < 300) (h4 : b.1 4 = nI (S + 1)) (h9 : b.2.1 9 S = nI pl) (h1 : pl + w.length ≤ 3000) (h2 : w.length ≤ 119) (h3 : ∀ x ∈ w, vp_nar .char x.1 = x.1) (hx : vp_nar .char x = x)
    (k : ∀ σ', Cs (sF (wdn r S b pl w).1 16 1) ((x, r) :: (wdn r S b pl w).2.2) σ' → Φ 1 σ') : wp_X1_takesSign x r σ Φ := by
  unfold wp_X1_takesSign
  obtain ⟨i1, i2, -, i3⟩ := wdn_keeps (r := r) (S := S) w b pl
  refine s_writeDown hS h4 h9 h1 (by omega) h3 h (fun σ1 g1 => nm_e ?_)
  have hlen : (wdn r S b pl w).2.2.length ≤ w.length := by
    have : ∀ (w : List (Int32 × Int32)) (b : S9) (p : Nat), (wdn r S b p w).2.2.length ≤ w.length := by
      intro w
      induction w with
      | nil => intro b p; exact Nat.le_refl _
      | cons y w ih =>
        intro b p
        by_cases e : y.2 < r
        · rw [wdn_stop e]; exact Nat.le_refl _
        · rw [wdn_go e]
          exact Nat.le_trans (ih _ _) (by rw [List.length_cons]; omega)
    exact this w b pl
  exact s_holds (Cs_sF g1 (show (16 : Nat) ≠ 13 by decide) 1) (by omega) hx (fun σ2 g2 => ⟨rfl, k σ2 g2⟩)
/-- all down: no sign of an expression is at hand -/
theorem x_downAll {b c : S9} {S pl0 pl h f hb j : Nat} {kd : Int32} {fo : Bool} {w base : List (Int32 × Int32)} (hbl : base.length ≤ 100) (hX : XQ b c S pl0 pl h f w 0 false fo hb) (hn : noPre w) (hf : fo = true → w ≠ []) (hwl : w.length ≤ 130) (h4 : wd c j kd) (k1 : ¬ kd = 142) (k2 : ¬ kd = 147) (k3 : ¬ kd = 137) (k4 : ¬ kd = 143) (k5 : ¬ kd = 145) (hk : (¬ kd = 160 ∧ ¬ kd = 161) ∨ ∃ s w', (wdn 2 S b pl w).2.2 = (s, 1) :: w') :
    ∃ c' h', FXc c c' pl ∧ c'.1 3 = c.1 3 ∧ FXb b (wdn 1 S b pl w).1 S ∧ pl ≤ (wdn 1 S b pl w).2.1 ∧ XQ (wdn 1 S b pl w).1 c' S pl0 (wdn 1 S b pl w).2.1 h' f (wdn 1 S b pl w).2.2 3 false fo hb ∧ (wdn 1 S b pl w).2.2.length ≤ 130 ∧ ∀ Ψ : Int32 → S9 → Prop, MG c' (fr base fo (wdn 1 S b pl w).2.2 3) Ψ → MG c (fr base fo w 0) Ψ := by
  obtain ⟨c3, h3, a1, a2, a3, a4, a5, a6, a7⟩ := x_down3 hbl hwl hX hn hf h4.2.2.2
  have w3 : wd c3 j kd := ⟨a2.trans h4.1, h4.2.1, by rw [a1.2.1 1 (by decide) (by decide) (by decide) (by decide) (by decide) (by decide)]; exact h4.2.2.1, by rw [a1.1 4 (by decide) (by decide) (by decide) (by decide) (by decide) (by decide)]; exact h4.2.2.2⟩
  have e2 := wdn_comp (r := 2) (r' := 3) (S := S) (fun k hk => Int32.lt_trans hk (by decide)) w b pl
  have e1 := wdn_comp (r := 1) (r' := 2) (S := S) (fun k hk => Int32.lt_trans hk (by decide)) w b pl
  obtain ⟨c2, h2, b1, b2, b3, b4, b5, b6, b7⟩ := x_down2 (base := base) hbl a6 a5 w3.2.2.2
  rw [← e2] at b3 b4 b5 b6 b7
  have w2 : wd c2 j kd := ⟨b2.trans w3.1, w3.2.1, by rw [b1.2.1 1 (by decide) (by decide) (by decide) (by decide) (by decide) (by decide)]; exact w3.2.2.1, by rw [b1.1 4 (by decide) (by decide) (by decide) (by decide) (by decide) (by decide)]; exact w3.2.2.2⟩
  obtain ⟨c1, h1, d1, d2, d3, d4, d5, d6, d7⟩ := x_down1 (base := base) hbl b6 b5 w2 hk
  rw [← e1] at d3 d4 d5 d6 d7
  refine ⟨c1, h1, a1.trans (b1.trans d1 b4) a4, d2.trans (b2.trans a2), (a3.trans b3).trans d3, by omega, d5, d6, fun Ψ k => ?_⟩
  have l2 := fr_len base fo (wdn 2 S b pl w).2.2 2 (by omega)
  have l3 := fr_len base fo (wdn 3 S b pl w).2.2 1 (by omega)
  exact a7 Ψ (mg_timed0 w3 (by omega) k1 k2 k3 (b7 Ψ (mg_summed0 w2 (by omega) k4 k5 (d7 Ψ k))))
theorem MFail.back {c c1 : S9} {th th1 : List (Int32 × Int32)} {j pl : Nat} (h : MFail c1 th1 j) (hf : FXc c c1 pl) (k : ∀ Ψ : Int32 → S9 → Prop, MG c1 th1 Ψ → MG c th Ψ) : MFail c th j := by
  obtain ⟨c2, l2, g1, g2, g3⟩ := h
  refine ⟨c2, l2, hf.ff.trans g1, g2, fun Ψ kk => k Ψ (g3 Ψ ?_)⟩
  rw [hf.2.1 3 (by decide) (by decide) (by decide) (by decide) (by decide) (by decide)]; exact kk
theorem mfail_close {c : S9} {l : List (Int32 × Int32)} {j : Nat} {kd : Int32} (hw : wd c j kd) (hl : l.length < 3900) (h : ¬ kd = 141) : MFail c ((12, 0) :: l) j := by
  obtain ⟨w1, w2, w3, w4⟩ := hw
  refine ⟨sF c 7 (c.1 7 - 1), l, (FXc_sF (pl := 0) (Or.inr (Or.inl rfl))).ff, by omega, fun Ψ kk => ?_⟩
  refine mg_in w4 (by omega) (Or.inr ⟨by decide, by decide⟩) (fun τ K hτ kc => dI_close ?_) kk
  refine s_expect hτ w1 w4 (by omega) (fun e => absurd (w3.symm.trans e) h) (fun _ τ1 h1 => nm_e ?_)
  rw [St_1 h1 (show (7 : Nat) ≠ 5 by decide)]
  refine kc _ ?_
  have := St_sF h1 (show (7 : Nat) ≠ 5 by decide) (c.1 7 - 1)
  have e : sF (sF c 4 (c.2.1 3 j)) 7 (c.1 7 - 1) = sF (sF c 7 (c.1 7 - 1)) 4 (c.2.1 3 j) := by
    unfold sF
    exact Prod.ext (upd_comm _ _ _ (by decide)) rfl
  rw [← e]; exact this
theorem pars_nil {fo : Bool} {w : List (Int32 × Int32)} (h : okW fo w 3) (hp : pars w = 0) : w = [] := by
  cases w with
  | nil => rfl
  | cons x w =>
    unfold okW at h
    rcases h with ⟨-, -, e, -⟩ | ⟨-, -, e, -⟩ | ⟨-, -, e, -⟩ | ⟨-, -, e, -⟩ | ⟨e, -, -⟩
    · exact absurd e (by decide)
    · exact absurd e (by decide)
    · exact absurd e (by decide)
    · exact absurd e (by decide)
    · have : pars (x :: w) = 1 + pars w := by
        show (if x.2 = 0 then 1 else 0) + pars w = _
        rw [if_pos e]
      omega
theorem pars_cons {fo : Bool} {w : List (Int32 × Int32)} (h : okW fo w 3) (hp : ¬ pars w = 0) : ∃ w', w = (40, 0) :: w' ∧ okW fo w' 0 ∧ pars w = pars w' + 1 := by
  cases w with
  | nil => exact absurd rfl hp
  | cons x w =>
    unfold okW at h
    rcases h with ⟨-, -, e, -⟩ | ⟨-, -, e, -⟩ | ⟨-, -, e, -⟩ | ⟨-, -, e, -⟩ | ⟨e, e2, h⟩
    · exact absurd e (by decide)
    · exact absurd e (by decide)
    · exact absurd e (by decide)
    · exact absurd e (by decide)
    · refine ⟨w, by rw [← e, ← e2], h, ?_⟩
      show (if x.2 = 0 then 1 else 0) + pars w = _
      rw [if_pos e]; omega
