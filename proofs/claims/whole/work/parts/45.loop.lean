/-! ===== the text's end ===== -/
theorem stk_ex (w : TL) : ∃ f g : Nat → Int32, stk f g w.length = w := by
  induction w with
  | nil => exact ⟨fun _ => 0, fun _ => 0, rfl⟩
  | cons x w ih =>
    obtain ⟨f, g, h⟩ := ih
    exact ⟨upd f w.length x.1, upd g w.length x.2, by show stk _ _ (w.length + 1) = _; rw [stk_push, h]⟩
theorem Cs_ex (b : S9) (w : TL) : ∃ σ, Cs b w σ := by
  obtain ⟨f, g, h⟩ := stk_ex w
  exact ⟨_, f, g, h, rfl⟩
theorem no_acc0 {b c : S9} {w th base : TL} {S pl0 pl hb j : Nat} {fo : Bool} (h : xAcc b c w th 0 S pl0 pl hb j fo base) : False := by
  obtain ⟨b', c', w', pl', h', f', due', -, -, -, -, -, -, r7, -⟩ := h
  obtain ⟨σ, hσ⟩ := Cs_ex b w
  have q := r7 σ (fun r _ => r = 1) hσ (fun _ _ => rfl)
  unfold wp_X1_takes at q
  have fin : ∀ σ1, ¬ wp_X1_takes_b20 (fun r _ => r = 1) 0 σ1 := fun σ1 z => by
    unfold wp_X1_takes_b20 at z
    exact absurd (show (0 : Int32) = 1 from (z.1 rfl).2) (by decide)
  by_cases e : σ.1 16 = 0
  · have q1 := q.1 e
    unfold wp_X1_takesOperator at q1
    exact fin _ ((((((((q1.2 (by decide)).2 (by decide)).2 (by decide)).2 (by decide)).2 (by decide)).2 (by decide)).2 (by decide)).2 (by decide))
  · have q1 := q.2 e
    unfold wp_X1_takesFactor at q1
    by_cases e2 : σ.1 15 = 60
    · exact fin _ (q1.1 e2)
    · have q2 := q1.2 e2 _ rfl
      have q3 := ((((q2.2 (by decide)).2 (by decide)).2 (by decide)).2 (by decide)).2 (by decide)
      unfold wp_X10_isName at q3
      exact fin _ ((q3.1 (by decide)).1 rfl)
theorem QQ_m {b c : S9} {w th : TL} {j p : Nat} (h : QQ b c w th j p) : ∃ m : Nat, m < 1200 ∧ c.1 11 = nI m := by
  have key : ∀ {g : GH} {S m d np T x wp : Nat} {xo xu : Int32}, SM b c g S m d np T xo xu wp → RM b.2.1 S m d np x → ∃ m : Nat, m < 1200 ∧ c.1 11 = nI m := by
    intro g S m d np T x wp xo xu hs hr
    have := RM_m hr hs.num.2.1 hs.num.2.2.2.2.2.2.2.2.1
    exact ⟨m, by omega, hs.num.2.2.2.2.2.2.2.2.2.1⟩
  rcases h with ⟨-, g, S, m, d, np, pl, pr, pj, h, -⟩ | ⟨-, g, S, m, d, np, pl, pr, pj, s, xu, h, -⟩ | ⟨-, g, S, m, d, np, pl0, pl, pr, pj, h1, f, h, -⟩ | ⟨-, g, S, m, d, np, pl0, pl, pr, pj, h1, f, due, h, -⟩ | ⟨-, g, S, m, d, np, pl0, pl, pr, pj, h1, f, hb, due, h, -⟩ | ⟨-, g, S, m, d, np, pl, pr, pj, h, -⟩ | ⟨-, g, S, m, np, pl, pr, pj, h, -⟩ | ⟨-, g, S, m, d, np, pl, pr, pj, s, h, -⟩
  · exact key h.sm h.rm
  · exact key h.sm h.rm
  · exact key h.sm h.rm
  · exact key h.sm h.rm
  · exact key h.sm h.rm
  · exact key h.sm h.rm
  · have := h.rm
    have := h.sm.num.2.1
    have := h.sm.num.2.2.2.2.2.2.2.2.1
    exact ⟨m, by omega, h.sm.num.2.2.2.2.2.2.2.2.2.1⟩
  · exact key h.sm h.rm
theorem R0_wp {b c : S9} {g : GH} {S m d np pl pr pj wp wp' : Nat} (h : R0 b c g S m d np pl pr pj wp) (hw : wp ≤ wp') : R0 b c g S m d np pl pr pj wp' := ⟨SM_wp h.sm hw, h.2⟩
theorem QQ_wp {b c : S9} {w th : TL} {j wp wp' : Nat} (h : QQ b c w th j wp) (hw : wp ≤ wp') : QQ b c w th j wp' := by
  rcases h with ⟨e, g, S, m, d, np, pl, pr, pj, h, r⟩ | ⟨e, g, S, m, d, np, pl, pr, pj, s, xu, h, r⟩ | ⟨e, g, S, m, d, np, pl0, pl, pr, pj, h1, f, h, r⟩ | ⟨e, g, S, m, d, np, pl0, pl, pr, pj, h1, f, due, h, r⟩ | ⟨e, g, S, m, d, np, pl0, pl, pr, pj, h1, f, hb, due, h, r⟩ | ⟨e, g, S, m, d, np, pl, pr, pj, h, r⟩ | ⟨e, g, S, m, np, pl, pr, pj, h, r⟩ | ⟨e, g, S, m, d, np, pl, pr, pj, s, h, r⟩
  · exact Or.inl ⟨e, g, S, m, d, np, pl, pr, pj, R0_wp h hw, r⟩
  · exact Or.inr (Or.inl ⟨e, g, S, m, d, np, pl, pr, pj, s, xu, ⟨SM_wp h.sm hw, h.2⟩, r⟩)
  · exact Or.inr (Or.inr (Or.inl ⟨e, g, S, m, d, np, pl0, pl, pr, pj, h1, f, ⟨SM_wp h.sm hw, h.2⟩, r⟩))
  · exact Or.inr (Or.inr (Or.inr (Or.inl ⟨e, g, S, m, d, np, pl0, pl, pr, pj, h1, f, due, ⟨SM_wp h.sm hw, h.2⟩, r⟩)))
  · exact Or.inr (Or.inr (Or.inr (Or.inr (Or.inl ⟨e, g, S, m, d, np, pl0, pl, pr, pj, h1, f, hb, due, ⟨SM_wp h.sm hw, h.2⟩, r⟩))))
  · exact Or.inr (Or.inr (Or.inr (Or.inr (Or.inr (Or.inl ⟨e, g, S, m, d, np, pl, pr, pj, R0_wp h hw, r⟩)))))
  · exact Or.inr (Or.inr (Or.inr (Or.inr (Or.inr (Or.inr (Or.inl ⟨e, g, S, m, np, pl, pr, pj, ⟨SM_wp h.sm hw, h.2⟩, r⟩))))))
  · exact Or.inr (Or.inr (Or.inr (Or.inr (Or.inr (Or.inr (Or.inr ⟨e, g, S, m, d, np, pl, pr, pj, s, ⟨SM_wp h.sm hw, h.2⟩, r⟩))))))
/-- the end of the text: a program, or a fault there -/
theorem q_end {b c : S9} {w th : TL} {j p : Nat} (h : QQ b c w th j p) (hw : wd c j 0) (hp : p < 3001) (hpl : c.2.1 3 j = nI p) (hj : j ≤ 3000) :
    (b.1 6 = 0 ∧ (b.1 7 = 0 ∨ b.1 7 = 1) ∧ ∃ (c' : S9) (g : GH) (S m np pl pr pj : Nat), R0 b c' g S m 0 np pl pr pj p ∧ pl ≤ 3000 ∧ WFc c c' ∧ ∀ Ψ : Int32 → S9 → Prop, MG c' [] Ψ → MG c th Ψ) ∨
    (¬ (b.1 6 = 0 ∧ (b.1 7 = 0 ∨ b.1 7 = 1)) ∧ MFail c th j) := by
  have wk : ∀ v num, WK 0 0 v num := fun v num => Or.inl ⟨rfl, rfl⟩
  have st0 : ∀ {c : S9} {g : GH} {S m d np pl pr pj : Nat}, wd c j 0 → R0 b c g S m d np pl pr pj p → (d = 0 ∧ ∀ Ψ : Int32 → S9 → Prop, MG c [] Ψ → MG c (BS b.2.1 g pj pr d) Ψ) ∨ (¬ d = 0 ∧ MFail c (BS b.2.1 g pj pr d) j) := by
    intro c g S m d np pl pr pj hw hR
    obtain ⟨n1, n2, n3, n4, n5, n6, n7, n8, n9, n10, n11⟩ := hR.sm.num
    by_cases e : d = 0
    · subst e
      refine Or.inl ⟨rfl, fun Ψ k => ?_⟩
      obtain ⟨w1, w2, w3, w4⟩ := hw
      refine mg_out w4 (by decide) ⟨by decide, Or.inl (by decide)⟩ (fun τ K hτ kk => ?_) k
      unfold wp_X11_doOuter
      refine br_t rfl ?_
      rw [St_1 hτ (show (3 : Nat) ≠ 5 by decide), w1, nI_clamp (by omega), St_2 hτ (show (1 : Nat) ≠ 4 by decide) (by decide), w3]
      exact ⟨pk_in j 3002 (by omega), br_t rfl (kk τ hτ)⟩
    · exact Or.inr ⟨e, m_rej hw n6 n3 n2 (fun z => absurd z e) (fun _ => by decide) (Or.inr (Or.inr ⟨by decide, by decide, by decide, by decide, by decide, by decide⟩))⟩
  have d6 : ∀ {d : Nat}, b.1 6 = nI d → d ≤ 20 → ¬ d = 0 → ¬ (b.1 6 = 0 ∧ (b.1 7 = 0 ∨ b.1 7 = 1)) := fun {d} h6 hd e z => by
    have := z.1
    rw [h6] at this
    exact e (nIj (by omega) (by omega) (b := 0) this)
  have aw : ∀ {q : Int32}, b.1 7 = q → ¬ q = 0 → ¬ q = 1 → ¬ (b.1 6 = 0 ∧ (b.1 7 = 0 ∨ b.1 7 = 1)) := fun {q} h7 e0 e1 z => by
    rcases z.2 with y | y
    · exact e0 (h7.symm.trans y)
    · exact e1 (h7.symm.trans y)
  rcases h with ⟨h7, g, S, m, d, np, pl, pr, pj, hR, hplj, eth⟩ | ⟨h7, g, S, m, d, np, pl, pr, pj, s, xu, hR, hplj, eth⟩ | ⟨h7, g, S, m, d, np, pl0, pl, pr, pj, h1, f, hax, hxq, hfin, hk, hplj, ew, eth⟩ | ⟨h7, g, S, m, d, np, pl0, pl, pr, pj, h1, f, due, hax, hxr, hk, hdue, hplj, eth⟩ | ⟨h7, g, S, m, d, np, pl0, pl, pr, pj, h1, f, hb, due, hax, hxr, hfin, hk65, hplj, eth⟩ | ⟨h7, g, S, m, d, np, pl, pr, pj, hR, hplj, eth⟩ | ⟨h7, g, S, m, np, pl, pr, pj, hR, hplj, eth⟩ | ⟨h7, g, S, m, d, np, pl, pr, pj, s, hR, hplj, eth⟩
  · subst eth
    have h6 := hR.sm.num.2.2.2.1
    rcases st0 hw hR with ⟨e, q⟩ | ⟨e, q⟩
    · subst e; exact Or.inl ⟨h6, Or.inl h7, c, g, S, m, np, pl, pr, pj, hR, by omega, WFc.rf c, q⟩
    · exact Or.inr ⟨d6 h6 hR.sm.num.2.2.2.2.2.1 e, q⟩
  · subst eth
    have h6 := hR.sm.num.2.2.2.1
    obtain ⟨c', g', r1, r2, r3, r4, rf, r5, r6⟩ := w_noElse hR hw (by decide)
    have hw' : wd c' j 0 := ⟨r3.trans hw.1, hw.2.1, by rw [r2.2.2.1]; exact hw.2.2.1, r4.trans hw.2.2.2⟩
    rw [← r5] at r6 ⊢
    rcases st0 hw' r1 with ⟨e, q⟩ | ⟨e, q⟩
    · subst e; exact Or.inl ⟨h6, Or.inr h7, c', g', S, m, np, pl, pr, pj, r1, by omega, r2, fun Ψ k => r6 Ψ (q Ψ k)⟩
    · exact Or.inr ⟨d6 h6 hR.sm.num.2.2.2.2.2.1 e, q.back2 rf r2.2.2.2.2.1 r6⟩
  · subst eth
    have hbl := bsT_len b.2.1 g (32 * pj + pr) d
    have hd := hax.sm.num.2.2.2.2.2.1
    exact Or.inr ⟨aw h7 (by decide) (by decide), m_signBad rfl hw (by decide) (by unfold bEq BS; simp only [List.length_cons]; omega)⟩
  · subst eth
    have hbl := bsT_len b.2.1 g (32 * pj + pr) d
    have hd := hax.sm.num.2.2.2.2.2.1
    have hbase : ((4, 61) :: bEq b.2.1 g S pj pr d : TL).length ≤ 100 := by unfold bEq BS; simp only [List.length_cons]; omega
    refine Or.inr ⟨aw h7 (by decide) (by decide), ?_⟩
    have key : xAcc b c w (xTh ((4, 61) :: bEq b.2.1 g S pj pr d) true w due) 0 S pl0 pl 0 j true ((4, 61) :: bEq b.2.1 g S pj pr d) ∨ xRej b c w (xTh ((4, 61) :: bEq b.2.1 g S pj pr d) true w due) 0 S j := by
      cases due with
      | true => exact x_due hbase hxr (wk _ _) rfl hw rfl (by omega)
      | false => exact x_op hbase hxr (fun _ e => hdue rfl (by rw [e]; rfl)) (wk 0 0) hw (by omega) (fun z => absurd z (hdue rfl))
    rcases key with q | ⟨-, -, -, -, q⟩
    · exact (no_acc0 q).elim
    · exact q
  · subst eth
    obtain ⟨n1, n2, n3, n4, n5, n6, n7, n8, n9, n10, n11⟩ := hax.sm.num
    have hm := RM_m hax.rm n2 n9
    have hg0 := hax.g0
    have hbl := bsT_len b.2.1 g (32 * pj + pr) d
    have hbl2 : (BS b.2.1 g pj pr d).length < 3800 := by unfold BS; omega
    have hbase := bEx_len b.2.1 g S pj pr d n6
    refine Or.inr ⟨aw h7 (by decide) (by decide), ?_⟩
    have key : xAcc b c w (xTh (bEx b.2.1 g S pj pr d) false w due) 0 S pl0 pl hb j false (bEx b.2.1 g S pj pr d) ∨ xRej b c w (xTh (bEx b.2.1 g S pj pr d) false w due) 0 S j := by
      cases due with
      | true => exact x_due hbase hxr (wk _ _) rfl hw rfl (by omega)
      | false =>
        refine x_op hbase hxr (fun z => absurd z (by decide)) (wk 0 0) hw (by omega) (fun z c1 hw1 hc1 => ?_)
        have c6 : c1.1 6 = nI d := (hc1.sc 6 (by decide)).trans n5
        have hwd1 : wd (mEnd c1 (g 0 S)) j 0 := hw1
        have hp3 : ∃ p : Nat, p < 3001 ∧ (mEnd c1 (g 0 S)).2.1 3 j = nI p := ⟨p, hp, by show c1.2.1 3 j = _; rw [hc1.arr 3 (by decide)]; exact hpl⟩
        unfold bEx
        by_cases e6 : b.2.1 2 S = 63
        · rw [if_pos e6]
          exact (m_openBad (l := (15, nI (g 0 S)) :: BS b.2.1 g pj pr d) hwd1 c6 n6 (by simp only [List.length_cons]; omega) (Or.inl (by decide)) hp3).back2 (FF_end _ _) rfl (fun Ψ k => m_ended hw1.2.2.2 (by omega) (by simp only [List.length_cons]; omega) k)
        · rw [if_neg e6]
          by_cases e7 : b.2.1 2 S = 42
          · rw [if_pos e7]
            exact (m_openBad (l := (17, nI (g 0 S)) :: BS b.2.1 g pj pr d) hwd1 c6 n6 (by simp only [List.length_cons]; omega) (Or.inl (by decide)) hp3).back2 (FF_end _ _) rfl (fun Ψ k => m_ended hw1.2.2.2 (by omega) (by simp only [List.length_cons]; omega) k)
          · rw [if_neg e7]
            exact (m_signBad (l := BS b.2.1 g pj pr d) rfl hwd1 (by decide) (by omega)).back2 (FF_end _ _) rfl (fun Ψ k => m_ended hw1.2.2.2 (by omega) (by simp only [List.length_cons]; omega) k)
    rcases key with q | ⟨-, -, -, -, q⟩
    · exact (no_acc0 q).elim
    · exact q
  · subst eth
    have hbl := bsT_len b.2.1 g (32 * pj + pr) d
    have hd := hR.sm.num.2.2.2.2.2.1
    exact Or.inr ⟨aw h7 (by decide) (by decide), m_signBad rfl hw (by decide) (by unfold BS; omega)⟩
  · subst eth
    have hbl := bsT_len b.2.1 g (32 * pj + pr) 0
    exact Or.inr ⟨aw h7 (by decide) (by decide), m_openBad hw hR.sm.num.2.2.2.2.1 (by omega) (by unfold BS; simp only [List.length_cons]; omega) (Or.inl (by decide)) ⟨p, hp, hpl⟩⟩
  · subst eth
    have hbl := bsT_len b.2.1 g (32 * pj + pr) d
    have hd := hR.sm.num.2.2.2.2.2.1
    exact Or.inr ⟨aw h7 (by decide) (by decide), m_openBad hw hR.sm.num.2.2.2.2.1 hd (by unfold BS; simp only [List.length_cons]; omega) (Or.inl (by decide)) ⟨p, hp, hpl⟩⟩
