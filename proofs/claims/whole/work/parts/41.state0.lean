/-! ===== words where a statement may begin: all of them ===== -/
theorem ctx_s {B : AR} {g : GH} {pn e s : Nat} (h : B 14 e = nI s) (hs : s < 300) : ctxT B g pn e = if B 15 e = 0 then (if B 2 s = 63 then (15, nI (g 0 s)) else (17, nI (g 0 s))) else (16, nI (g 3 s)) := by
  unfold ctxT
  rw [h, nI_clamp (by omega), if_neg (nIm1 (by omega))]
  by_cases e5 : B 15 e = 0
  · rw [if_pos e5, if_pos e5]
    by_cases e6 : B 2 s = 63
    · rw [if_pos e6, if_pos e6]
    · rw [if_neg e6, if_neg e6]
  · rw [if_neg e5, if_neg e5]
theorem wfb_down (b : S9) (d : Nat) (aw : Int32) : WFb b (cDown b d aw) := ⟨fun k hk => by show upd (upd b.1 6 _) 7 _ k = _; rw [pk_un (by omega), pk_un (by omega)], rfl, rfl, rfl⟩
theorem wfc_down (c : S9) (d j : Nat) : WFc c (mDown c d j) := ⟨fun k hk => by show upd (upd c.1 3 _) 6 _ k = _; rw [pk_un (by omega), pk_un (by omega)], rfl, rfl, rfl, rfl, rfl⟩
theorem c_brace {σ : S9} {Φ : Int32 → S9 → Prop} (h : wp_X0_closesBlock σ (fun r26 σ11 => narrow .boolean (.int r26) = .int r26 ∧ Φ r26 σ11)) : wp_X0_beginsStatement 125 σ Φ := by
  unfold wp_X0_beginsStatement
  exact s_isProc (fun z => absurd z (by decide)) (fun _ => br_t rfl (s_isName (fun z => absurd z (by decide)) (fun _ => br_t rfl (br_f (by decide) (br_f (by decide) (br_f (by decide) (br_f (by decide) (br_t rfl h))))))))
theorem c_bad {σ : S9} {x : Int32} {Φ : Int32 → S9 → Prop} (h1 : ¬ (¬ x < 65 ∧ ¬ 90 < x)) (h2 : ¬ (¬ x < 97 ∧ ¬ 122 < x)) (h3 : ¬ x = 33) (h4 : ¬ x = 42) (h5 : ¬ x = 63) (h6 : ¬ x = 64) (h7 : ¬ x = 125) (k : Φ 0 σ) : wp_X0_beginsStatement x σ Φ := by
  unfold wp_X0_beginsStatement
  exact s_isProc (fun z => absurd z h1) (fun _ => br_t rfl (s_isName (fun z => absurd z h2) (fun _ => br_t rfl (br_f h3 (br_f h4 (br_f h5 (br_f h6 (br_f h7 k))))))))
theorem w_rbrace {b c : S9} {g : GH} {S m d np pl pr pj p j : Nat} {v : Int32} {w : TL} (h : R0 b c g S m (d + 1) np pl pr pj p) (hpl : pl ≤ j) (hw : WH b c j p 125 225 v) : wAcc (wp_X0_beginsStatement 125) b c w (BS b.2.1 g pj pr (d + 1)) j p := by
  obtain ⟨n1, n2, n3, n4, n5, n6, n7, n8, n9, n10, n11⟩ := h.sm.num
  have hbl := bsT_len b.2.1 g (32 * pj + pr) d
  have hm := RM_m h.rm n2 n9
  have hth : BS b.2.1 g pj pr (d + 1) = (2, 0) :: ctxT b.2.1 g (32 * pj + pr) (d + 1) :: BS b.2.1 g pj pr d := rfl
  have hbl2 : (BS b.2.1 g pj pr d).length < 3800 := by unfold BS; omega
  rw [hth]
  rcases lv15 h.sm (e := d + 1) (by omega) (Nat.le_refl _) with ⟨q, q1⟩ | ⟨s, hs, ho, -, hop⟩
  · have e : d = 0 := by omega
    subst e
    obtain ⟨g', hR, r1, r2, r3, r4⟩ := w_close4 (j := j) h q
    refine ⟨cDef b pr np, mDefd c pj pr np m j, w, BS b.2.1 g pj pr 0, Or.inl ⟨rfl, g', S, m + 1, 0, np + 1, pl, pr, pj, hR, by omega, rfl⟩, ⟨fun k hk => ?_, rfl, rfl, rfl⟩, ⟨fun k hk => ?_, rfl, rfl, rfl, rfl, rfl⟩, rfl, n11, fun σ Φ hσ k => c_brace (s_closesP hσ n4 q r2 r1 n7 (fun σ' h' => ⟨rfl, k σ' h'⟩)), fun Ψ k => ?_⟩
    · show upd (upd (upd (upd b.1 6 _) 5 _) 8 _) 7 _ k = _
      rw [pk_un (by omega), pk_un (by omega), pk_un (by omega), pk_un (by omega)]
    · show upd (upd (upd (upd c.1 3 _) 6 _) 11 _) 13 _ k = _
      rw [pk_un (by omega), pk_un (by omega), pk_un (by omega), pk_un (by omega)]
    · have ec : ctxT b.2.1 g (32 * pj + pr) (0 + 1) = (18, nI (32 * pj + pr)) := by unfold ctxT; rw [if_pos q]
      rw [ec]
      exact m_rest hw.wd n5 (by simp only [List.length_cons]; omega) (m_defd n11 (by omega) n10 r4 n8 r3 r1 k)
  · have hs3 : s < 300 := by omega
    rw [ctx_s ho hs3]
    by_cases e5 : b.2.1 15 (d + 1) = 0
    · rw [if_pos e5]
      by_cases e6 : b.2.1 2 s = 63
      · rw [if_pos e6]
        obtain ⟨el, hD⟩ := w_down (aw := 1) (j := j) h hs ho
        have hel : el = 0 := by
          rcases hD.e15 with ⟨q, -⟩ | ⟨-, q⟩
          · exact q
          · rw [show (cDown b d 1).2.1 15 (d + 1) = b.2.1 15 (d + 1) from rfl, e5] at q; exact absurd q (by decide)
        have hR := w_close1 hD hel e6
        exact ⟨cDown b d 1, mDown c d j, w, (15, nI (g 0 s)) :: BS b.2.1 g pj pr d, Or.inr (Or.inl ⟨rfl, g, S, m, d, np, pl, pr, pj, s, _, hR, by omega, rfl⟩), wfb_down _ _ _, wfc_down _ _ _, rfl, n11, fun σ Φ hσ k => c_brace (s_closes hσ n4 (by omega) ho hs3 (Or.inl ⟨e6, e5, rfl⟩) (fun σ' h' => ⟨rfl, k σ' h'⟩)), fun Ψ k => m_rest hw.wd n5 (by simp only [List.length_cons]; omega) k⟩
      · rw [if_neg e6]
        obtain ⟨el, hD⟩ := w_down (aw := 0) (j := j) h hs ho
        have hk : b.2.1 2 s = 42 := by
          rcases hop with ⟨-, q, -⟩ | ⟨q, -⟩
          · exact q.resolve_left e6
          · rw [e5] at q; exact absurd q (by decide)
        obtain ⟨g', hR, hbs, r1, r2⟩ := w_close2 hD hk
        refine ⟨cDown b d 0, mRound (mDown c d j) (g 0 s) m, w, BS b.2.1 g pj pr d, Or.inl ⟨rfl, g', S, m + 1, d, np, pl, pr, pj, hR, by omega, hbs.symm⟩, wfb_down _ _ _, ⟨fun k hk => ?_, rfl, rfl, rfl, rfl, rfl⟩, rfl, n11, fun σ Φ hσ k => c_brace (s_closes hσ n4 (by omega) ho hs3 (Or.inr ⟨Or.inl e6, rfl⟩) (fun σ' h' => ⟨rfl, k σ' h'⟩)), fun Ψ k => m_rest hw.wd n5 (by simp only [List.length_cons]; omega) (m_round n11 (by omega) n10 r2 r1 k)⟩
        show upd (upd (upd c.1 3 _) 6 _) 11 _ k = _
        rw [pk_un (by omega), pk_un (by omega), pk_un (by omega)]
    · rw [if_neg e5]
      obtain ⟨el, hD⟩ := w_down (aw := 0) (j := j) h hs ho
      have hel : el = 1 := by
        rcases hD.e15 with ⟨-, q⟩ | ⟨q, -⟩
        · exact absurd q e5
        · exact q
      obtain ⟨g', hR, hbs, r1⟩ := w_close3 hD hel
      exact ⟨cDown b d 0, mTgt (mDown c d j) (g 3 s) m, w, BS b.2.1 g pj pr d, Or.inl ⟨rfl, g', S, m, d, np, pl, pr, pj, hR, by omega, hbs.symm⟩, wfb_down _ _ _, wfc_down _ _ _, rfl, n11, fun σ Φ hσ k => c_brace (s_closes hσ n4 (by omega) ho hs3 (Or.inr ⟨Or.inr e5, rfl⟩) (fun σ' h' => ⟨rfl, k σ' h'⟩)), fun Ψ k => m_rest hw.wd n5 (by simp only [List.length_cons]; omega) (m_elseEnd n11 (by omega) n10 r1 k)⟩
theorem sgI {p : Nat} {k : Nat} (hp : p < 256) (hk : k < 256) : nI p = nI k ↔ p = k := nI_inj (by omega) (by omega)
theorem w_state0 {b c : S9} {g : GH} {S m d np pl pr pj p j : Nat} {x kd v : Int32} {w : TL} (h : R0 b c g S m d np pl pr pj p) (hpl : pl ≤ j) (hw : WH b c j p x kd v) (hx0 : ¬ x = 0) :
    wAcc (wp_X0_beginsStatement x) b c w (BS b.2.1 g pj pr d) j p ∨ wRej (wp_X0_beginsStatement x) b c w (BS b.2.1 g pj pr d) j := by
  obtain ⟨n1, n2, n3, n4, n5, n6, n7, n8, n9, n10, n11⟩ := h.sm.num
  have hm := RM_m h.rm n2 n9
  have hk0 : ¬ kd = 0 := fun z => hx0 ((wk_zero hw.wk).mpr z)
  have hbl := bsT_len b.2.1 g (32 * pj + pr) d
  have hbl2 : (BS b.2.1 g pj pr d).length < 3800 := by unfold BS; omega
  -- a step of a kind, or too many
  have go : ∀ (k1 ck tg ct q : Int32), vp_nar .char k1 = k1 → kdm k1 ck → ¬ k1 = 65 → (k1 = 61 → ∃ p : Nat, p < 26 ∧ tg = nI p ∧ ct = nI p) → ¬ kd = 4 → ¬ kd = 225 →
      ((¬ (¬ x < 65 ∧ ¬ 90 < x) ∧ (¬ x < 97 ∧ ¬ 122 < x) ∧ k1 = 61 ∧ tg = x - 97 ∧ q = 2) ∨ (x = 33 ∧ k1 = x ∧ tg = -1 ∧ q = 4) ∨ (x = 42 ∧ k1 = x ∧ tg = -1 ∧ q = 4) ∨ (x = 63 ∧ k1 = x ∧ tg = -1 ∧ q = 4) ∨ (x = 64 ∧ k1 = x ∧ tg = -1 ∧ q = 3)) →
      (S < 300 → ∀ (l' : TL) (Ψ : Int32 → S9 → Prop), l' = (if k1 = 61 then (4, 61) :: (5, 0) :: (14, nI m) :: (4, 59) :: BS b.2.1 g pj pr d else if k1 = 64 then (11, 0) :: (4, 61) :: (5, 0) :: (14, nI m) :: (4, 59) :: BS b.2.1 g pj pr d else if k1 = 33 then (5, 0) :: (14, nI m) :: (4, 59) :: BS b.2.1 g pj pr d else if k1 = 63 then (5, 0) :: (14, nI m) :: (3, 0) :: (15, nI m) :: BS b.2.1 g pj pr d else (5, 0) :: (14, nI m) :: (3, 0) :: (17, nI m) :: BS b.2.1 g pj pr d) → MG (mStep c S ck ct (nI p) m j) l' Ψ → MG c (BS b.2.1 g pj pr d) Ψ) →
      wAcc (wp_X0_beginsStatement x) b c w (BS b.2.1 g pj pr d) j p ∨ wRej (wp_X0_beginsStatement x) b c w (BS b.2.1 g pj pr d) j := by
    intro k1 ck tg ct q e1 e2 e3 e4 e5 e5' e6 e7
    by_cases hS : S < 300
    · exact Or.inl (w_simple h hpl hw hS e1 e2 e3 e4 e6 (e7 hS))
    · have eS : S = 300 := by omega
      subst eS
      exact Or.inr ⟨b, w, WFb.rf b, fun σ Φ hσ k => c_bgn e6 (c_300 hσ n1 (br_t rfl (k σ hσ))), m_rej hw.wd n6 n3 n2 (fun _ => ⟨hk0, fun z => e5 z.1⟩) (fun _ => e5') (Or.inl rfl)⟩
  have bad : ¬ (¬ x < 65 ∧ ¬ 90 < x) → ¬ (¬ x < 97 ∧ ¬ 122 < x) → ¬ x = 33 → ¬ x = 42 → ¬ x = 63 → ¬ x = 64 → ¬ x = 125 → ¬ kd = 225 → ¬ kd = 4 → ¬ kd = 3 → ¬ kd = 164 → ¬ kd = 133 → ¬ kd = 163 → ¬ kd = 142 → wRej (wp_X0_beginsStatement x) b c w (BS b.2.1 g pj pr d) j := by
    intro a1 a2 a3 a4 a5 a6 a7 a8 a9 a10 a11 a12 a13 a14
    exact ⟨b, w, WFb.rf b, fun σ Φ hσ k => c_bad a1 a2 a3 a4 a5 a6 a7 (k σ hσ), m_rej hw.wd n6 n3 n2 (fun _ => ⟨hk0, fun z => a9 z.1⟩) (fun _ => a8) (Or.inr (Or.inr ⟨a9, a10, a11, a12, a13, a14⟩))⟩
  rcases hw.wk with ⟨e, -⟩ | ⟨e1, e2, -⟩ | ⟨e1, e2, -⟩ | ⟨q, hq, e1, e2, e3⟩ | ⟨q, hq, e1, e2, e3⟩ | ⟨q, ⟨s1, s2, s3, s4, s5⟩, e1, e2⟩
  · exact absurd e hx0
  · refine Or.inr (bad ?_ ?_ ?_ ?_ ?_ ?_ ?_ ?_ ?_ ?_ ?_ ?_ ?_ ?_) <;> first | (rw [e1]; decide) | (rw [e2]; decide)
  · refine Or.inr (bad ?_ ?_ ?_ ?_ ?_ ?_ ?_ ?_ ?_ ?_ ?_ ?_ ?_ ?_) <;> first | (rw [e1]; decide) | (rw [e2]; decide)
  · -- a name
    have hn := (wk_name hw.wk).mpr e2
    have hnp : ¬ (¬ x < 65 ∧ ¬ 90 < x) := fun z => by
      have := (wk_proc hw.wk).mp z
      rw [e2] at this; exact absurd this (by decide)
    refine go 61 3 (x - 97) v 2 (by decide) (Or.inl ⟨rfl, rfl⟩) (by decide) (fun _ => ⟨q, hq, by rw [e1, show (97 : Int32) = nI 97 from rfl, pk_sub (by omega), show 97 + q - 97 = q by omega], e3⟩) (by rw [e2]; decide) (by rw [e2]; decide) (Or.inl ⟨hnp, hn, rfl, rfl, rfl⟩) (fun hS l' Ψ el k => ?_)
    rw [if_pos rfl] at el
    subst el
    have hw3 : wd c j 3 := by have := hw.wd; rw [e2] at this; exact this
    exact m_stmt hw3 n6 (fun _ => ⟨by decide, fun z => absurd z.1 (by decide)⟩) (fun _ => by decide) (fun τ K hτ kk => s_stmtN hτ hw3 (Or.inl rfl) hw.v hw.pl n3 hS n10 (by omega) (by omega) kk) k
  · -- a procedure's name
    subst e2
    have hpr := (wk_proc hw.wk).mpr rfl
    have cls : ∀ (σ : S9) (Φ : Int32 → S9 → Prop), wp_X0_takesProcedure (nI q) σ (fun r31 σ14 => narrow .boolean (.int r31) = .int r31 ∧ Φ r31 σ14) → wp_X0_beginsStatement x σ Φ := by
      intro σ Φ hh
      unfold wp_X0_beginsStatement
      refine s_isProc (fun _ => br_f (by decide) ?_) (fun z => absurd hpr z)
      rw [e1, show (65 : Int32) = nI 65 from rfl, pk_sub (by omega), show 65 + q - 65 = q by omega]
      exact hh
    by_cases hdef : d = 0 ∧ c.2.1 1 (j + 1) = 223
    · obtain ⟨ed, enx⟩ := hdef
      subst ed
      by_cases hdq : b.2.1 13 q = 0
      · exact Or.inl (w_def h hpl hw hq e3 e1 enx hdq)
      · have h15 : ¬ c.2.1 15 q = 0 := by
          rcases h.sm.pd q hq with ⟨z, -⟩ | ⟨-, z, -⟩
          · exact absurd z hdq
          · rw [z]; decide
        refine Or.inr ⟨sF b 8 (nI q), w, ⟨fun k hk => by show upd b.1 8 _ k = _; rw [pk_un (by omega)], rfl, rfl, rfl⟩, fun σ Φ hσ k => cls σ Φ ?_, ?_⟩
        · unfold wp_X0_takesProcedure
          rw [Cs_1 hσ (show (6 : Nat) ≠ 13 by decide), n4]
          refine br_t rfl (hw.bf w σ _ rfl hσ (fun _ => br_f (by decide) (nm_e ⟨pk_in q 26 hq, ?_⟩)) (fun z => absurd enx z))
          rw [nI_clamp (by omega), show (sF σ 8 (nI q)).2.1 13 = b.2.1 13 from Cs_2 hσ (by decide) (by decide)]
          exact br_f hdq ⟨rfl, k _ (Cs_sF hσ (by decide) _)⟩
        · obtain ⟨w1, w2, w3, w4⟩ := hw.wd
          refine ⟨c, BS b.2.1 g pj pr 0, FF.rf c, by omega, fun Ψ k => ?_⟩
          have hin : vp_in (nI j) 3002 := pk_in j 3002 (by omega)
          have e3' : ∀ (l : List (Int32 × Int32)) (τ : S9), St c l τ → τ.1 3 = nI j ∧ τ.2.1 1 = c.2.1 1 ∧ τ.2.1 2 = c.2.1 2 ∧ τ.2.1 15 = c.2.1 15 := fun l τ hh => ⟨by rw [St_1 hh (show (3 : Nat) ≠ 5 by decide), w1], St_2 hh (by decide) (by decide), St_2 hh (by decide) (by decide), St_2 hh (by decide) (by decide)⟩
          refine mg_out w4 (by decide) ⟨by decide, Or.inl (by decide)⟩ (fun τ K h kk => ?_) k
          unfold wp_X11_doOuter
          refine br_t rfl ?_
          rw [(e3' _ _ h).1, (e3' _ _ h).2.1, nI_clamp (by omega), w3]
          refine ⟨hin, br_f (by decide) (s_come h (by decide) (fun τ1 h1 => ?_))⟩
          unfold wp_X11_outer
          rw [(e3' _ _ h1).1, (e3' _ _ h1).2.1, nI_1, nI_clamp (by omega), nI_clamp (by omega), w3, enx]
          refine ⟨hin, br_t rfl ⟨pk_in (j + 1) 3002 (by omega), br_t rfl ?_⟩⟩
          unfold wp_X11_outer_b35
          rw [(e3' _ _ h1).1, (e3' _ _ h1).2.2.1, (e3' _ _ h1).2.2.2, nI_clamp (by omega), hw.v, e3]
          refine br_f (by decide) ⟨hin, nm_e ⟨pk_in q 26 hq, ?_⟩⟩
          rw [nI_clamp (by omega)]
          exact br_f h15 (s_fail h1 w4 (by omega) kk)
    · have hnd : d = 0 → ¬ c.2.1 1 (j + 1) = 223 := fun z y => hdef ⟨z, y⟩
      have g46 : ∀ (b' : S9) (σ : S9) (Φ : Int32 → S9 → Prop), Cs b w σ → wp_X0_takesProcedure_b46 (fun r31 σ14 => narrow .boolean (.int r31) = .int r31 ∧ Φ r31 σ14) (nI q) σ → wp_X0_beginsStatement x σ Φ := by
        intro b' σ Φ hσ hh
        refine cls σ Φ ?_
        unfold wp_X0_takesProcedure
        rw [Cs_1 hσ (show (6 : Nat) ≠ 13 by decide), n4]
        exact pk_eq d 0 (fun e0 => hw.bf w σ _ rfl hσ (fun z => absurd z (hnd e0)) (fun _ => br_t rfl hh)) (fun _ => hh)
      by_cases hdq : b.2.1 13 q = 0
      · have h15 : c.2.1 15 q = 0 := by
          rcases h.sm.pd q hq with ⟨-, z⟩ | ⟨z, -⟩
          · exact z
          · rw [hdq] at z; exact absurd z (by decide)
        refine Or.inr ⟨b, w, WFb.rf b, fun σ Φ hσ k => g46 b σ Φ hσ ?_, m_rej hw.wd n6 n3 n2 (fun e0 => ⟨by decide, fun z => hnd e0 z.2⟩) (fun _ => by decide) (Or.inr (Or.inl ⟨rfl, q, hq, hw.v.trans e3, h15⟩))⟩
        unfold wp_X0_takesProcedure_b46
        rw [nI_clamp (by omega), Cs_2 hσ (show (13 : Nat) ≠ 17 by decide) (by decide)]
        exact ⟨pk_in q 26 hq, br_t hdq ⟨rfl, k σ hσ⟩⟩
      · by_cases hS : S < 300
        · exact Or.inl (w_call h hpl hw hS hq e3 e1 hnd hdq)
        · have eS : S = 300 := by omega
          subst eS
          refine Or.inr ⟨b, w, WFb.rf b, fun σ Φ hσ k => g46 b σ Φ hσ ?_, m_rej hw.wd n6 n3 n2 (fun e0 => ⟨by decide, fun z => hnd e0 z.2⟩) (fun _ => by decide) (Or.inl rfl)⟩
          unfold wp_X0_takesProcedure_b46
          rw [nI_clamp (by omega), Cs_2 hσ (show (13 : Nat) ≠ 17 by decide) (by decide)]
          exact ⟨pk_in q 26 hq, br_f hdq (c_300 hσ n1 (br_t rfl ⟨rfl, k σ hσ⟩))⟩
  · -- a sign
    have hp4 : ¬ kd = 4 := by rw [e2, show (4 : Int32) = nI 4 from rfl, nI_inj (by omega) (by omega)]; omega
    have hp3 : ¬ kd = 3 := by rw [e2, show (3 : Int32) = nI 3 from rfl, nI_inj (by omega) (by omega)]; omega
    have hnpr : ¬ (¬ x < 65 ∧ ¬ 90 < x) := fun z => hp4 ((wk_proc hw.wk).mp z)
    have hnnm : ¬ (¬ x < 97 ∧ ¬ 122 < x) := fun z => hp3 ((wk_name hw.wk).mp z)
    have xk : ∀ k : Nat, k < 256 → (x = nI k ↔ q = k) := fun k hk => by rw [e1]; exact sgI s2 hk
    have kk : ∀ k : Nat, k < 256 → (kd = nI (100 + k) ↔ q = k) := fun k hk => by rw [e2, nI_inj (by omega) (by omega)]; omega
    by_cases q33 : q = 33
    · have ex : x = 33 := (xk 33 (by omega)).mpr q33
      have ek : kd = 133 := (kk 33 (by omega)).mpr q33
      refine go 33 133 (-1) v 4 (by decide) (Or.inr (Or.inr (Or.inl ⟨rfl, rfl⟩))) (by decide) (fun z => absurd z (by decide)) hp4 (by rw [ek]; decide) (Or.inr (Or.inl ⟨ex, ex.symm, rfl, rfl⟩)) (fun hS l' Ψ el k => ?_)
      rw [if_neg (by decide), if_neg (by decide), if_pos rfl] at el
      subst el
      have hw3 : wd c j 133 := by have := hw.wd; rw [ek] at this; exact this
      exact m_stmt hw3 n6 (fun _ => ⟨by decide, fun z => absurd z.1 (by decide)⟩) (fun _ => by decide) (fun τ K hτ kk => s_stmtN hτ hw3 (Or.inr (Or.inr rfl)) hw.v hw.pl n3 hS n10 (by omega) (by omega) kk) k
    by_cases q64 : q = 64
    · have ex : x = 64 := (xk 64 (by omega)).mpr q64
      have ek : kd = 164 := (kk 64 (by omega)).mpr q64
      refine go 64 164 (-1) v 3 (by decide) (Or.inr (Or.inl ⟨rfl, rfl⟩)) (by decide) (fun z => absurd z (by decide)) hp4 (by rw [ek]; decide) (Or.inr (Or.inr (Or.inr (Or.inr ⟨ex, ex.symm, rfl, rfl⟩)))) (fun hS l' Ψ el k => ?_)
      rw [if_neg (by decide), if_pos rfl] at el
      subst el
      have hw3 : wd c j 164 := by have := hw.wd; rw [ek] at this; exact this
      exact m_stmt hw3 n6 (fun _ => ⟨by decide, fun z => absurd z.1 (by decide)⟩) (fun _ => by decide) (fun τ K hτ kk => s_stmtN hτ hw3 (Or.inr (Or.inl rfl)) hw.v hw.pl n3 hS n10 (by omega) (by omega) kk) k
    by_cases q63 : q = 63
    · have ex : x = 63 := (xk 63 (by omega)).mpr q63
      have ek : kd = 163 := (kk 63 (by omega)).mpr q63
      refine go 63 163 (-1) 0 4 (by decide) (Or.inr (Or.inr (Or.inr (Or.inr (Or.inl ⟨rfl, rfl⟩))))) (by decide) (fun z => absurd z (by decide)) hp4 (by rw [ek]; decide) (Or.inr (Or.inr (Or.inr (Or.inl ⟨ex, ex.symm, rfl, rfl⟩)))) (fun hS l' Ψ el k => ?_)
      rw [if_neg (by decide), if_neg (by decide), if_neg (by decide), if_pos rfl] at el
      subst el
      have hw3 : wd c j 163 := by have := hw.wd; rw [ek] at this; exact this
      exact m_stmt hw3 n6 (fun _ => ⟨by decide, fun z => absurd z.1 (by decide)⟩) (fun _ => by decide) (fun τ K hτ kk => s_stmtC hτ hw3 (Or.inl rfl) hw.pl n3 hS n10 (by omega) (by omega) kk) k
    by_cases q42 : q = 42
    · have ex : x = 42 := (xk 42 (by omega)).mpr q42
      have ek : kd = 142 := (kk 42 (by omega)).mpr q42
      refine go 42 142 (-1) 0 4 (by decide) (Or.inr (Or.inr (Or.inr (Or.inr (Or.inr ⟨rfl, rfl⟩))))) (by decide) (fun z => absurd z (by decide)) hp4 (by rw [ek]; decide) (Or.inr (Or.inr (Or.inl ⟨ex, ex.symm, rfl, rfl⟩))) (fun hS l' Ψ el k => ?_)
      rw [if_neg (by decide), if_neg (by decide), if_neg (by decide), if_neg (by decide)] at el
      subst el
      have hw3 : wd c j 142 := by have := hw.wd; rw [ek] at this; exact this
      exact m_stmt hw3 n6 (fun _ => ⟨by decide, fun z => absurd z.1 (by decide)⟩) (fun _ => by decide) (fun τ K hτ kk => s_stmtC hτ hw3 (Or.inr rfl) hw.pl n3 hS n10 (by omega) (by omega) kk) k
    have t1 : ¬ kd = 164 := fun z => q64 ((kk 64 (by omega)).mp z)
    have t2 : ¬ kd = 133 := fun z => q33 ((kk 33 (by omega)).mp z)
    have t3 : ¬ kd = 163 := fun z => q63 ((kk 63 (by omega)).mp z)
    have t4 : ¬ kd = 142 := fun z => q42 ((kk 42 (by omega)).mp z)
    by_cases q125 : q = 125
    · have ex : x = 125 := (xk 125 (by omega)).mpr q125
      have ek : kd = 225 := (kk 125 (by omega)).mpr q125
      cases d with
      | zero =>
        refine Or.inr ⟨b, w, WFb.rf b, fun σ Φ hσ k => ?_, m_rej hw.wd n6 n3 n2 (fun _ => ⟨hk0, fun z => hp4 z.1⟩) (fun z => by omega) (Or.inr (Or.inr ⟨hp4, hp3, t1, t2, t3, t4⟩))⟩
        rw [ex]
        refine c_brace ?_
        unfold wp_X0_closesBlock
        rw [Cs_1 hσ (show (6 : Nat) ≠ 13 by decide), n4]
        exact br_t rfl ⟨rfl, k σ hσ⟩
      | succ d =>
        subst ex; subst ek
        exact Or.inl (w_rbrace h hpl hw)
    exact Or.inr (bad hnpr hnnm (fun z => q33 ((xk 33 (by omega)).mp z)) (fun z => q42 ((xk 42 (by omega)).mp z)) (fun z => q63 ((xk 63 (by omega)).mp z)) (fun z => q64 ((xk 64 (by omega)).mp z)) (fun z => q125 ((xk 125 (by omega)).mp z)) (fun z => q125 ((kk 125 (by omega)).mp z)) hp4 hp3 t1 t2 t3 t4)
