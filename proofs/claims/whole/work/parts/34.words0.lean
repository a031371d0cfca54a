/-! ===== words where a statement begins ===== -/
theorem fr_t0 (base : TL) : xTh base true [] true = (11, 0) :: base := rfl
theorem fr_f0 (base : TL) : xTh base false [] true = (11, 0) :: (10, 0) :: (8, 0) :: (6, 0) :: base := rfl
theorem XQ0 {b c : S9} {S pl : Nat} {fo : Bool} (h : XE b c S pl pl 0) (h14 : b.1 14 = 0) (h7 : c.1 7 = 0) (h15 : b.1 15 = 0) (h9 : c.1 9 = 0) (hp : pl ≤ 3000) : XQ b c S pl pl 0 0 [] 0 true fo 0 := by
  refine ⟨h, ?_, ⟨h14, h7, by decide⟩, ⟨h15, h9, by omega⟩, ?_, rfl, Nat.le_refl _, ?_, ?_⟩
  · unfold okW; trivial
  · simp
  · simp only [List.length_nil]; omega
  · simp
/-- what beginsStatement does with a sign, by its kind -/
theorem c_bgn {σ : S9} {x k1 tg q : Int32} {Φ : Int32 → S9 → Prop} (hx : (¬ (¬ x < 65 ∧ ¬ 90 < x) ∧ (¬ x < 97 ∧ ¬ 122 < x) ∧ k1 = 61 ∧ tg = x - 97 ∧ q = 2) ∨ (x = 33 ∧ k1 = x ∧ tg = -1 ∧ q = 4) ∨ (x = 42 ∧ k1 = x ∧ tg = -1 ∧ q = 4) ∨ (x = 63 ∧ k1 = x ∧ tg = -1 ∧ q = 4) ∨ (x = 64 ∧ k1 = x ∧ tg = -1 ∧ q = 3))
    (h : wp_X0_addsStep k1 tg σ (fun r σ1 => (r = 0 → Φ 0 σ1) ∧ (¬ r = 0 → wp_X0_awaits q σ1 (fun r8 σ4 => (r8 = 0 → Φ 0 σ4) ∧ (¬ r8 = 0 → Φ 1 σ4))))) : wp_X0_beginsStatement x σ Φ := by
  unfold wp_X0_beginsStatement
  rcases hx with ⟨p1, p2, e1, e2, e3⟩ | ⟨e0, e1, e2, e3⟩ | ⟨e0, e1, e2, e3⟩ | ⟨e0, e1, e2, e3⟩ | ⟨e0, e1, e2, e3⟩
  · subst e1; subst e2; subst e3
    exact s_isProc (fun z => absurd z p1) (fun _ => br_t rfl (s_isName (fun _ => br_f (by decide) h) (fun z => absurd p2 z)))
  · subst e0; subst e1; subst e2; subst e3
    exact s_isProc (fun z => absurd z (by decide)) (fun _ => br_t rfl (s_isName (fun z => absurd z (by decide)) (fun _ => br_t rfl (br_t rfl h))))
  · subst e0; subst e1; subst e2; subst e3
    exact s_isProc (fun z => absurd z (by decide)) (fun _ => br_t rfl (s_isName (fun z => absurd z (by decide)) (fun _ => br_t rfl (br_f (by decide) (br_t rfl h)))))
  · subst e0; subst e1; subst e2; subst e3
    exact s_isProc (fun z => absurd z (by decide)) (fun _ => br_t rfl (s_isName (fun z => absurd z (by decide)) (fun _ => br_t rfl (br_f (by decide) (br_f (by decide) (br_t rfl h))))))
  · subst e0; subst e1; subst e2; subst e3
    exact s_isProc (fun z => absurd z (by decide)) (fun _ => br_t rfl (s_isName (fun z => absurd z (by decide)) (fun _ => br_t rfl (br_f (by decide) (br_f (by decide) (br_f (by decide) (br_t rfl h)))))))
theorem c_300 {b σ : S9} {w : TL} {k1 tg : Int32} {Φ : Int32 → S9 → Prop} (h : Cs b w σ) (h4 : b.1 4 = nI 300) (k : Φ 0 σ) : wp_X0_addsStep k1 tg σ Φ := by
  unfold wp_X0_addsStep
  exact br_t (by rw [Cs_1 h (show (4 : Nat) ≠ 13 by decide), h4]; rfl) k
/-- names, cells, outputs, conditions, loops -/
theorem w_simple {b c : S9} {g : GH} {S m d np pl pr pj p j : Nat} {x kd v k1 ck tg ct q : Int32} {w : TL} (h : R0 b c g S m d np pl pr pj p) (hpl : pl ≤ j) (hw : WH b c j p x kd v) (hS : S < 300) (hk1 : vp_nar .char k1 = k1) (hkd : kdm k1 ck) (hk65 : ¬ k1 = 65) (h61 : k1 = 61 → ∃ p : Nat, p < 26 ∧ tg = nI p ∧ ct = nI p)
    (hx : (¬ (¬ x < 65 ∧ ¬ 90 < x) ∧ (¬ x < 97 ∧ ¬ 122 < x) ∧ k1 = 61 ∧ tg = x - 97 ∧ q = 2) ∨ (x = 33 ∧ k1 = x ∧ tg = -1 ∧ q = 4) ∨ (x = 42 ∧ k1 = x ∧ tg = -1 ∧ q = 4) ∨ (x = 63 ∧ k1 = x ∧ tg = -1 ∧ q = 4) ∨ (x = 64 ∧ k1 = x ∧ tg = -1 ∧ q = 3))
    (hm : ∀ (l' : TL) (Ψ : Int32 → S9 → Prop), l' = (if k1 = 61 then (4, 61) :: (5, 0) :: (14, nI m) :: (4, 59) :: BS b.2.1 g pj pr d else if k1 = 64 then (11, 0) :: (4, 61) :: (5, 0) :: (14, nI m) :: (4, 59) :: BS b.2.1 g pj pr d else if k1 = 33 then (5, 0) :: (14, nI m) :: (4, 59) :: BS b.2.1 g pj pr d else if k1 = 63 then (5, 0) :: (14, nI m) :: (3, 0) :: (15, nI m) :: BS b.2.1 g pj pr d else (5, 0) :: (14, nI m) :: (3, 0) :: (17, nI m) :: BS b.2.1 g pj pr d) → MG (mStep c S ck ct (nI p) m j) l' Ψ → MG c (BS b.2.1 g pj pr d) Ψ) :
    wAcc (wp_X0_beginsStatement x) b c w (BS b.2.1 g pj pr d) j p := by
  obtain ⟨b', g', hax, hxe, hbs, hg0, hb2, hf, hwc, hmr, -, hcl⟩ := b_step (w := w) (ct := ct) (tg := tg) h hw hS hk1 hkd h61 (fun z => absurd z hk65)
  have hbl := bsT_len b.2.1 g (32 * pj + pr) d
  have hd := h.sm.num.2.2.2.2.2.1
  have hwj := hw.j3
  have hcls : ∀ (σ : S9) (Φ : Int32 → S9 → Prop), Cs b w σ → (∀ σ', Cs (sF b' 7 q) [] σ' → Φ 1 σ') → wp_X0_beginsStatement x σ Φ := fun σ Φ hσ k => c_bgn hx (hcl σ _ hσ (fun σ' h' => br_f (by decide) (c_aw (k _ (Cs_sF h' (by decide) _)))))
  have h7c : (mStep c S ck ct (nI p) m j).1 7 = 0 := h.o7
  have h4c : (mStep c S ck ct (nI p) m j).1 4 = -1 := hw.wd.2.2.2
  have hb2' : (sF b' 7 q).2.1 2 S = k1 := hb2
  have xq : ∀ fo, XQ (sF b' 7 q) (mStep c S ck ct (nI p) m j) S pl pl 0 0 [] 0 true fo 0 := fun fo => XQ0 hxe hf.2.2.2.1 h7c hf.2.2.2.2.1 rfl (by omega)
  have hax' : AX (sF b' 7 q) (mStep c S ck ct (nI p) m j) g' S (m + 1) d np pl pr pj (p + 1) := hax
  have hbs' : BS (sF b' 7 q).2.1 g' pj pr d = BS b.2.1 g pj pr d := hbs
  have wfb : WFb b (sF b' 7 q) := WFb_7 hf.wf
  have h16 : (sF b' 7 q).1 16 = 1 := hf.2.2.2.2.2.1
  rcases hx with ⟨-, -, e1, e2, e3⟩ | ⟨e0, e1, -, e3⟩ | ⟨e0, e1, -, e3⟩ | ⟨e0, e1, -, e3⟩ | ⟨e0, e1, -, e3⟩
  · subst e3
    refine ⟨sF b' 7 2, _, [], _, Or.inr (Or.inr (Or.inl ⟨rfl, g', S, m + 1, d, np, pl, pl, pr, pj, 0, 0, hax', xq false, ?_, Or.inl (hb2'.trans e1), by omega, rfl, rfl⟩)), wfb, hwc, rfl, h4c, hcls, fun Ψ k => hm _ Ψ ?_ k⟩
    · rw [hb2', e1]; rfl
    · rw [if_pos e1]; unfold bEq; rw [hg0, hbs']
  · subst e3
    have ek : k1 = 33 := e1.trans e0
    refine ⟨sF b' 7 4, _, [], _, Or.inr (Or.inr (Or.inr (Or.inr (Or.inl ⟨rfl, g', S, m + 1, d, np, pl, pl, pr, pj, 0, 0, 0, true, hax', ⟨xq false, fun z => absurd z (by decide), h16⟩, ?_, by rw [hb2', ek]; decide, by simp only [List.length_nil]; omega, rfl⟩)))), wfb, hwc, rfl, h4c, hcls, fun Ψ k => hm _ Ψ rfl ?_⟩
    · rw [hb2', ek]; rfl
    · rw [if_neg (by rw [ek]; decide), if_neg (by rw [ek]; decide), if_pos ek]
      refine mg_expr h4c (by unfold BS; simp only [List.length_cons]; omega) ?_
      rw [fr_f0] at k
      unfold bEx at k
      rw [hb2', ek, if_neg (by decide), if_neg (by decide), hg0, hbs'] at k
      exact k
  · subst e3
    have ek : k1 = 42 := e1.trans e0
    refine ⟨sF b' 7 4, _, [], _, Or.inr (Or.inr (Or.inr (Or.inr (Or.inl ⟨rfl, g', S, m + 1, d, np, pl, pl, pr, pj, 0, 0, 0, true, hax', ⟨xq false, fun z => absurd z (by decide), h16⟩, ?_, by rw [hb2', ek]; decide, by simp only [List.length_nil]; omega, rfl⟩)))), wfb, hwc, rfl, h4c, hcls, fun Ψ k => hm _ Ψ rfl ?_⟩
    · rw [hb2', ek]; rfl
    · rw [if_neg (by rw [ek]; decide), if_neg (by rw [ek]; decide), if_neg (by rw [ek]; decide), if_neg (by rw [ek]; decide)]
      refine mg_expr h4c (by unfold BS; simp only [List.length_cons]; omega) ?_
      rw [fr_f0] at k
      unfold bEx at k
      rw [hb2', ek, if_neg (by decide), if_pos rfl, hg0, hbs'] at k
      exact k
  · subst e3
    have ek : k1 = 63 := e1.trans e0
    refine ⟨sF b' 7 4, _, [], _, Or.inr (Or.inr (Or.inr (Or.inr (Or.inl ⟨rfl, g', S, m + 1, d, np, pl, pl, pr, pj, 0, 0, 0, true, hax', ⟨xq false, fun z => absurd z (by decide), h16⟩, ?_, by rw [hb2', ek]; decide, by simp only [List.length_nil]; omega, rfl⟩)))), wfb, hwc, rfl, h4c, hcls, fun Ψ k => hm _ Ψ rfl ?_⟩
    · rw [hb2', ek]; rfl
    · rw [if_neg (by rw [ek]; decide), if_neg (by rw [ek]; decide), if_neg (by rw [ek]; decide), if_pos ek]
      refine mg_expr h4c (by unfold BS; simp only [List.length_cons]; omega) ?_
      rw [fr_f0] at k
      unfold bEx at k
      rw [hb2', ek, if_pos rfl, hg0, hbs'] at k
      exact k
  · subst e3
    have ek : k1 = 64 := e1.trans e0
    refine ⟨sF b' 7 3, _, [], _, Or.inr (Or.inr (Or.inr (Or.inl ⟨rfl, g', S, m + 1, d, np, pl, pl, pr, pj, 0, 0, true, hax', ⟨xq true, fun z => absurd z (by decide), h16⟩, hb2'.trans ek, fun z => absurd z (by decide), by simp only [List.length_nil]; omega, rfl⟩))), wfb, hwc, rfl, h4c, hcls, fun Ψ k => hm _ Ψ ?_ k⟩
    rw [if_neg (by rw [ek]; decide), if_pos ek, fr_t0]; unfold bEq; rw [hg0, hbs']
/-- a call -/
theorem w_call {b c : S9} {g : GH} {S m d np pl pr pj p j : Nat} {x v : Int32} {w : TL} (h : R0 b c g S m d np pl pr pj p) (hpl : pl ≤ j) (hw : WH b c j p x 4 v) (hS : S < 300) {q : Nat} (hq : q < 26) (hv : v = nI q) (hxq : x = nI (65 + q)) (hnd : d = 0 → ¬ c.2.1 1 (j + 1) = 223) (hdq : ¬ b.2.1 13 q = 0) :
    wAcc (wp_X0_beginsStatement x) b c w (BS b.2.1 g pj pr d) j p := by
  obtain ⟨n1, n2, n3, n4, n5, n6, n7, n8, n9, n10, n11⟩ := h.sm.num
  have hm := RM_m h.rm n2 n9
  have hbl := bsT_len b.2.1 g (32 * pj + pr) d
  rcases h.sm.pd q hq with ⟨z, -⟩ | ⟨d1, d2, d3, e, d4, d5, d6⟩
  · exact absurd z hdq
  have hrk : g 8 q < ow1 b.2.1 d np := by
    unfold ow1
    split
    · omega
    · unfold owR
      split
      · exact d3
      · omega
  obtain ⟨b', g', hax, hxe, hbs, hg0, hb2, hf, hwc, hmr, hcd, hcl⟩ := b_step (w := w) (k1 := 65) (ck := 4) (ct := c.2.1 14 q) (tg := nI q) h hw hS (by decide) (Or.inr (Or.inr (Or.inr (Or.inl ⟨rfl, rfl⟩)))) (fun z => absurd z (by decide)) (fun _ => ⟨q, hq, rfl, d1, rfl, hrk⟩)
  have hx0 : xoS b'.2.1 S = -1 := by unfold xoS; rw [hb2, if_neg (by decide)]
  have hc0 : xcS b'.2.1 S = 0 := by unfold xcS; rw [hb2, if_neg (by decide)]
  have hsm := SM_T hax.sm (hcd rfl)
  have hdf := hax.df
  have hrm := hax.rm
  rw [hx0] at hsm hdf
  rw [hc0] at hrm
  have hpn := PN0_last hdf (by omega) (by omega) hax.ls hax.g1
  have hR : R0 b' (mStep c S 4 (c.2.1 14 q) (nI p) m j) g' (S + 1) (m + 1) d np pl pr pj (p + 1) := ⟨hsm, hmr, hpn, hdf, hrm, h.o7⟩
  have hR' : R0 (sF b' 7 5) (mStep c S 4 (c.2.1 14 q) (nI p) m j) g' (S + 1) (m + 1) d np pl pr pj (p + 1) := hR
  have hpr : ¬ x < 65 ∧ ¬ 90 < x := by
    rw [hxq, show (65 : Int32) = nI 65 from rfl, show (90 : Int32) = nI 90 from rfl, nI_ltI (by omega) (by omega), nI_ltI (by omega) (by omega)]; omega
  refine ⟨sF b' 7 5, _, [], (4, 59) :: BS b.2.1 g pj pr d, Or.inr (Or.inr (Or.inr (Or.inr (Or.inr (Or.inl ⟨rfl, g', S + 1, m + 1, d, np, pl, pr, pj, hR', by omega, ?_⟩))))), WFb_7 hf.wf, hwc, rfl, hw.wd.2.2.2, fun σ Φ hσ k => ?_, fun Ψ k => ?_⟩
  · show _ = (4, 59) :: BS b'.2.1 g' pj pr d
    rw [hbs]
  · unfold wp_X0_beginsStatement
    refine s_isProc (fun _ => br_f (by decide) ?_) (fun z => absurd hpr z)
    rw [hxq, show (65 : Int32) = nI 65 from rfl, pk_sub (by omega), show 65 + q - 65 = q by omega]
    have g46 : wp_X0_takesProcedure_b46 (fun r31 σ14 => narrow .boolean (.int r31) = .int r31 ∧ Φ r31 σ14) (nI q) σ := by
      unfold wp_X0_takesProcedure_b46
      rw [nI_clamp (by omega), Cs_2 hσ (show (13 : Nat) ≠ 17 by decide) (by decide)]
      refine ⟨pk_in q 26 hq, br_f hdq (hcl σ _ hσ (fun σ' h' => br_f (by decide) ?_))⟩
      unfold wp_X0_awaits
      exact nm_e (br_f (by decide) ⟨rfl, k _ (Cs_sF h' (by decide) _)⟩)
    unfold wp_X0_takesProcedure
    rw [Cs_1 hσ (show (6 : Nat) ≠ 13 by decide), n4]
    refine pk_eq d 0 (fun e0 => ?_) (fun _ => g46)
    exact hw.bf w σ _ rfl hσ (fun z => absurd z (hnd e0)) (fun _ => br_t rfl g46)
  · exact m_stmt hw.wd n6 (fun e0 => ⟨by decide, fun z => hnd e0 z.2⟩) (fun _ => by decide) (fun τ K hτ kk => s_stmtCall hτ hw.wd (hw.v.trans hv) hq hw.pl n3 hS n10 (by omega) (by unfold BS at *; omega) (by rw [d2]; decide) kk) k
