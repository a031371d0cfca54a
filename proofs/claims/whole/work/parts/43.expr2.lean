/-! ===== words of an expression, in a statement ===== -/
theorem okW_fo {w : TL} {n : Nat} (hn : 1 ≤ n) : okW true w n → ¬ pars w = 0 := by
  intro h
  induction w generalizing n with
  | nil =>
    unfold okW at h
    match n, hn with
    | n + 1, _ => exact absurd (show true = false from h) (by decide)
  | cons x w ih =>
    unfold okW at h
    unfold pars
    rcases h with ⟨-, -, q, -⟩ | ⟨-, -, q, -⟩ | ⟨e, -, -, q⟩ | ⟨e, -, -, q⟩ | ⟨e, -, -⟩
    · omega
    · omega
    · have := ih (n := 2) (by omega) q; omega
    · have := ih (n := 3) (by omega) q; omega
    · rw [if_pos e]; omega
theorem fo_nil {w : TL} (h : okW true w 0) (hn : noPre w) (hp : pars w = 0) : w = [] := by
  cases w with
  | nil => rfl
  | cons x w =>
    exfalso
    unfold okW at h
    unfold pars at hp
    rcases h with ⟨e, -, -, -⟩ | ⟨e, -, -, q⟩ | ⟨e, -, -, q⟩ | ⟨e, -, -, q⟩ | ⟨e, -, -⟩
    · exact hn x w rfl e
    · have := okW_fo (by omega) q; omega
    · have := okW_fo (by omega) q; omega
    · have := okW_fo (by omega) q; omega
    · rw [if_pos e] at hp; omega
theorem s_mayEnd {b σ : S9} {w : TL} {due : Bool} {Φ : Int32 → S9 → Prop} (h : Cs b w σ) (h16 : b.1 16 = (if due then 1 else 0)) (h14 : b.1 14 = nI (pars w)) (hp : pars w ≤ 20) (k1 : due = false ∧ pars w = 0 → Φ 1 σ) (k0 : ¬ (due = false ∧ pars w = 0) → Φ 0 σ) : wp_X1_mayEnd σ Φ := by
  unfold wp_X1_mayEnd
  rw [Cs_1 h (show (16 : Nat) ≠ 13 by decide), Cs_1 h (show (14 : Nat) ≠ 13 by decide), h16, h14]
  cases due with
  | true => exact br_f (by decide) (k0 (fun z => absurd z.1 (by decide)))
  | false => exact br_t rfl (pk_eq (pars w) 0 (fun e => k1 ⟨rfl, e⟩) (fun e => k0 (fun z => e z.2)))
theorem wpEx_eq {b b' : S9} {g : GH} {S pj pr d : Nat} (hb : FXb b b' S) : bEx b'.2.1 g S pj pr d = bEx b.2.1 g S pj pr d ∧ bEq b'.2.1 g S pj pr d = bEq b.2.1 g S pj pr d := by
  unfold bEx bEq
  rw [BS_fx hb, hb.eqb.1]
  exact ⟨rfl, rfl⟩
theorem bEx_len (B : AR) (g : GH) (S pj pr d : Nat) (hd : d ≤ 20) : (bEx B g S pj pr d).length ≤ 100 := by
  have hbl := bsT_len B g (32 * pj + pr) d
  unfold bEx BS
  split
  · simp only [List.length_cons]; omega
  · split
    · simp only [List.length_cons]; omega
    · simp only [List.length_cons]; omega
theorem w_state3 {b c : S9} {w th : TL} {j p : Nat} {x kd v : Int32} (h : Q3 b c w th j p) (h7 : b.1 7 = 3) (hw : WH b c j p x kd v) : wAcc (wp_X0_takes x) b c w th j p ∨ wRej (wp_X0_takes x) b c w th j := by
  obtain ⟨g, S, m, d, np, pl0, pl, pr, pj, h1, f, due, hax, hxr, hk, hdue, hpl, eth⟩ := h
  subst eth
  have hd := hax.sm.num.2.2.2.2.2.1
  have hbl := bsT_len b.2.1 g (32 * pj + pr) d
  have hj3 := hw.j3
  have hbase : ((4, 61) :: bEq b.2.1 g S pj pr d : TL).length ≤ 100 := by unfold bEq BS; simp only [List.length_cons]; omega
  have tk : ∀ (σ : S9) (Φ : Int32 → S9 → Prop), Cs b w σ → wp_X1_takes x σ (fun r12 σ5 => (r12 = 0 → Φ (0 : Int32) σ5) ∧ (¬ r12 = 0 → wp_X1_mayEnd σ5 (fun r14 σ6 => (r14 = 0 → wp_X0_takes_b121 Φ (3 : Int32) σ6) ∧ (¬ r14 = 0 → wp_X0_takes_b121 Φ (2 : Int32) σ6)))) → wp_X0_takes x σ Φ := by
    intro σ Φ hσ hh
    unfold wp_X0_takes
    rw [Cs_1 hσ (show (7 : Nat) ≠ 13 by decide), h7]
    exact br_f (by decide) (br_f (by decide) (br_f (by decide) (br_t rfl hh)))
  have key : xAcc b c w (xTh ((4, 61) :: bEq b.2.1 g S pj pr d) true w due) x S pl0 pl 0 j true ((4, 61) :: bEq b.2.1 g S pj pr d) ∨ xRej b c w (xTh ((4, 61) :: bEq b.2.1 g S pj pr d) true w due) x S j := by
    cases due with
    | true => exact x_due hbase hxr hw.wk rfl hw.wd hw.v (by omega)
    | false => exact x_op hbase hxr (fun _ e => hdue rfl (by rw [e]; rfl)) hw.wk hw.wd (by omega) (fun z => absurd z (hdue rfl))
  rcases key with ⟨b1, c1, w1, pl1, h2, f1, due1, r1, r2, r3, r4, r5, r6, r7, r8⟩ | ⟨b1, w1, r1, r2, r3⟩
  · have hax1 : AX b1 c1 g S m d np pl0 pr pj (p + 1) := AX_fx hax r4 r5 hxr.1.1.1.2.2.2.2 (by omega)
    have hb2 : b1.2.1 2 S = 64 := by rw [r4.eqb.1]; exact hk
    obtain ⟨eex, eeq⟩ := wpEx_eq (g := g) (pj := pj) (pr := pr) (d := d) r4
    have h4 : c1.1 4 = -1 := (r5.sc 4 (by decide)).trans hw.wd.2.2.2
    have x16 := r1.2.2
    have x14 := r1.1.2.2.1
    by_cases hend : due1 = false ∧ pars w1 = 0
    · obtain ⟨ed, ep⟩ := hend
      have hw0 := fo_nil r1.1.2.1 (r1.2.1 ed) ep
      subst hw0; subst ed
      have hax' : AX (sF b1 7 2) c1 g S m d np pl0 pr pj (p + 1) := hax1
      obtain ⟨y1, y2, y3, y4, y5, y6, y7, y8, y9⟩ := r1.1
      simp only [List.length_nil, Bool.false_eq_true, if_false] at y5 y6 y8
      have hh2 : h2 = 1 := by rw [y6]; rfl
      have hxq : XQ (sF b1 7 2) c1 S pl0 pl1 h2 f1 [] 0 true false h2 := by
        refine ⟨y1, ?_, y3, y4, ?_, ?_, y7, ?_, y9⟩
        · unfold okW; trivial
        · simp only [List.length_nil, if_true]; omega
        · simp only [if_true]; show h2 = 0 + 0 + h2; omega
        · simp only [List.length_nil]; omega
      refine Or.inl ⟨sF b1 7 2, c1, [], (4, 61) :: bEq b.2.1 g S pj pr d, Or.inr (Or.inr (Or.inl ⟨rfl, g, S, m, d, np, pl0, pl1, pr, pj, h2, f1, hax', hxq, ?_, Or.inr hb2, by simp only [List.length_nil] at r3; omega, rfl, ?_⟩)), WFb_7 r4.wf, r5.wf, r6, h4, fun σ Φ hσ k => tk σ Φ hσ (r7 σ _ hσ (fun σ' h' => br_f (by decide) (s_mayEnd h' x16 x14.1 x14.2.2 (fun _ => br_f (by decide) (c_aw (k _ (Cs_sF h' (by decide) _)))) (fun z => absurd ⟨rfl, ep⟩ z)))), fun Ψ k => r8 Ψ k⟩
      · show h2 + 1 = hfin (b1.2.1 2 S)
        rw [hb2, hh2]; rfl
      · show _ = (4, 61) :: bEq b1.2.1 g S pj pr d
        rw [eeq]
    · have hax' : AX (sF b1 7 3) c1 g S m d np pl0 pr pj (p + 1) := hax1
      refine Or.inl ⟨sF b1 7 3, c1, w1, xTh ((4, 61) :: bEq b.2.1 g S pj pr d) true w1 due1, Or.inr (Or.inr (Or.inr (Or.inl ⟨rfl, g, S, m, d, np, pl0, pl1, pr, pj, h2, f1, due1, hax', r1, hb2, fun z y => hend ⟨z, y⟩, by omega, ?_⟩))), WFb_7 r4.wf, r5.wf, r6, h4, fun σ Φ hσ k => tk σ Φ hσ (r7 σ _ hσ (fun σ' h' => br_f (by decide) (s_mayEnd h' x16 x14.1 x14.2.2 (fun z => absurd z hend) (fun _ => br_t rfl (c_aw (k _ (Cs_sF h' (by decide) _))))))), fun Ψ k => r8 Ψ k⟩
      show _ = xTh ((4, 61) :: bEq b1.2.1 g S pj pr d) true w1 due1
      rw [eeq]
  · exact Or.inr ⟨b1, w1, r1.wf, fun σ Φ hσ k => tk σ Φ hσ (r2 σ _ hσ (fun σ' h' => br_t rfl (k σ' h'))), r3⟩
/-! the book's tenth row: where a step's code ends -/
theorem JC_g {C : AR} {g g' : GH} (h4 : g' 4 = g 4) : ∀ {k h h' : Nat}, JC C g' k h h' = JC C g k h h' := by
  intro k
  induction k with
  | zero => intro h h'; rfl
  | succ k ih => intro h h'; unfold JC; simp only [h4, ih]
theorem JJ_g {C : AR} {g g' : GH} (h4 : g' 4 = g 4) {m x y : Nat} : JJ C g' m x y = JJ C g m x y := by
  unfold JJ; simp only [JC_g h4]
def GQ (g g' : GH) : Prop := g' 0 = g 0 ∧ g' 1 = g 1 ∧ g' 2 = g 2 ∧ g' 3 = g 3 ∧ g' 4 = g 4 ∧ g' 5 = g 5 ∧ g' 6 = g 6 ∧ g' 7 = g 7 ∧ g' 8 = g 8 ∧ g' 9 = g 9
theorem GQ10 (g : GH) (S v : Nat) : GQ g (gu g 10 S v) := by
  have q : ∀ k, k ≠ 10 → gu g 10 S v k = g k := fun k hk => by funext i; exact gu_k hk
  exact ⟨q 0 (by decide), q 1 (by decide), q 2 (by decide), q 3 (by decide), q 4 (by decide), q 5 (by decide), q 6 (by decide), q 7 (by decide), q 8 (by decide), q 9 (by decide)⟩
theorem SM_g {b c : S9} {g g' : GH} {S m d np T wp : Nat} {xo xu : Int32} (h : SM b c g S m d np T xo xu wp) (hg : GQ g g') (h10 : ∀ s, s < T → g' 10 s = g 10 s) : SM b c g' S m d np T xo xu wp := by
  obtain ⟨z0, z1, z2, z3, z4, z5, z6, z7, z8, z9⟩ := hg
  obtain ⟨h1, h2, h3, h4, h5, h6, h7, h8, h9, hT, h11, h12⟩ := h
  refine ⟨h1, ?_, ?_, ?_, h5, fun s hs => ?_, ?_, ?_, ?_, hT, fun s hs => ?_, fun s hs => ?_⟩
  · simp only [ST, FinP, CLP, ELok, FIok, SEok, JJ_g z4, z0, z1, z2, z3, z4, z5, z6, z7] at h2 ⊢; exact h2
  · simp only [LVL, LVe, LSe, OPN, ELok, FIok, SEok, z0, z1, z2, z3, z4, z5, z6, z7] at h3 ⊢; exact h3
  · simp only [PD, PDq, z0, z2, z8] at h4 ⊢; exact h4
  · have := h6 s hs
    simp only [SSs, z0, z2, z8, z9] at this ⊢; exact this
  · rw [z9]; exact h7
  · rw [z9]; exact h8
  · rw [z0]; exact h9
  · have := h11 s hs
    unfold CDs at this ⊢
    rw [z0, h10 s hs, csg_eq h10 (by omega)]; exact this
  · rw [h10 s hs, csg_eq h10 (Nat.le_refl _)]; exact h12 s hs
theorem DF_g {b c : S9} {g g' : GH} {S m d np pr pj : Nat} {xo : Int32} (h : DF b c g S m d np pr pj xo) (hg : GQ g g') : DF b c g' S m d np pr pj xo := by
  obtain ⟨z0, z1, z2, z3, z4, z5, z6, z7, z8, z9⟩ := hg
  refine ⟨fun z => ?_, fun z => ?_⟩
  · have := h.1 z
    simp only [DI, MN, JJ_g z4, z0, z1, z2, z4] at this ⊢; exact this
  · have := h.2 z
    simp only [DN, MN, JJ_g z4, z0, z1, z2, z4] at this ⊢; exact this
theorem BS_g {B : AR} {g g' : GH} {pj pr d : Nat} (hg : GQ g g') : BS B g' pj pr d = BS B g pj pr d := by
  refine bsT_congr (fun e _ _ => ?_)
  unfold ctxT
  rw [hg.1, hg.2.2.2.1]
/-- the step's expressions are read -/
theorem x_closed {b c : S9} {g : GH} {S m d np pl0 pl pr pj wp h f hb : Nat} (hax : AX b c g S m d np pl0 pr pj wp) (hxq : XQ b c S pl0 pl h f [] 3 false false hb) (hfin : hb + 1 = hfin (b.2.1 2 S)) :
    ∃ g', SM b (mEnd c (g 0 S)) g' (S + 1) m d np (S + 1) (xoS b.2.1 S) (-1) wp ∧ DF b (mEnd c (g 0 S)) g' (S + 1) m d np pr pj (xoS b.2.1 S) ∧ MR b (mEnd c (g 0 S)) g' (S + 1) pl ∧ BS b.2.1 g' pj pr d = BS b.2.1 g pj pr d ∧ GQ g g' := by
  obtain ⟨⟨e1, e2, e3, e4, e5⟩, e6, e7, e8, e9, e10⟩ := hxq.1
  have hh : h = hb + 1 := by
    have := hxq.2.2.2.2.2.1
    simp only [Bool.false_eq_true, if_false] at this
    rw [this]; show 0 + 1 + hb = _; omega
  have hgq := GQ10 g S pl
  have h10 : ∀ s, s < S → gu g 10 S pl 10 s = g 10 s := fun s hs => gu_i (by omega)
  have g10S : gu g 10 S pl 10 S = pl := gu_s
  have hcg : csg (gu g 10 S pl) S = pl0 := by rw [csg_eq h10 (Nat.le_refl _)]; exact hax.pl.symm
  obtain ⟨n1, n2, n3, n4, n5, n6, n7, n8, n9, n10, n11⟩ := hax.sm.num
  have hst := hax.sm.st
  have hS0 := hst.2.2.1 S (by omega)
  -- the reference's two rows at this code
  have hE : EQC c.2.1 (mEnd c (g 0 S)).2.1 := ⟨rfl, rfl, rfl, rfl, rfl⟩
  have hsm1 := SM_congr (b' := b) (c' := mEnd c (g 0 S)) hax.sm (EQB.rf _) hE ⟨n1, n2, n3, n4, n5, n6, n7, n8, n9, n10, n11⟩ (fun s hs => by
    have q := hax.sm.cd s hs
    have hlt := hst.2.2.2 s S hs (by omega)
    obtain ⟨q1, q2, q3, q4, q5, q6, q7⟩ := q
    refine ⟨q1, q2, ?_, q4, ?_, q6, q7⟩
    · show upd (c.2.1 9) (g 0 S) _ (g 0 s) = _
      rw [pk_un (by omega)]; exact q3
    · show upd (c.2.1 11) (g 0 S) _ (g 0 s) = _
      rw [pk_un (by omega)]; exact q5)
  have hsm2 := SM_g hsm1 hgq h10
  have hcd : CDs b.2.1 (mEnd c (g 0 S)).2.1 (gu g 10 S pl) S := by
    unfold CDs
    rw [g10S, hcg, gu_k (show (0 : Nat) ≠ 10 by decide)]
    have hle : pl - pl0 ≤ 120 := by
      have h1 := hxq.2.2.2.2.1
      have h2 := hxq.2.2.2.1.2.2
      simp only [List.length_nil, Bool.false_eq_true, if_false] at h1
      omega
    refine ⟨e3, hax.cf, ?_, ⟨e5, hle⟩, ?_, e10, ?_⟩
    · show upd (c.2.1 9) (g 0 S) (c.1 12) (g 0 S) = _
      rw [pk_us]; exact e4
    · show upd (c.2.1 11) (g 0 S) (c.1 14) (g 0 S) = _
      rw [pk_us]; exact e7.1.1
    · show hgt (c.2.1 12) pl0 (pl - pl0) = _
      rw [e9, hh, hfin]
  refine ⟨gu g 10 S pl, SM_T hsm2 hcd, DF_g (DF_congr (b' := b) (c' := mEnd c (g 0 S)) hax.df (EQB.rf _) hE rfl) hgq, ⟨e4, ?_, e6⟩, BS_g hgq, hgq⟩
  unfold csg
  rw [if_neg (by omega), show S + 1 - 1 = S from rfl, g10S]
