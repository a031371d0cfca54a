/-! ===== compile, as a call ===== -/
theorem s_resetLoop {σ : S9} {Φ : S9 → Prop} (k : Φ (sF (sF (sA (sA (sF (sA σ 13 (fl (σ.2.1 13) 0 26)) 6 0) 14 (upd (σ.2.1 14) 0 (-1))) 16 (upd (σ.2.1 16) 0 (-1))) 7 0) 8 26)) : lp_X0_reset_b9 Φ 27 0 σ := by
  refine fill_any (W := fun n a σ => lp_X0_reset_b9 Φ n a σ) (k := 13) (N := 26) (v := 0) (by omega) (fun n => ?_) (fun n a ha q => ?_)
  · show bd_X0_reset_b9 _ Φ _ _
    unfold bd_X0_reset_b9
    have hin : vp_in (0 : Int32) 21 := pk_in 0 21 (by omega)
    refine br_t (by decide) (nm_e ⟨hin, nm_e ⟨hin, nm_e (nm_e (nm_e ?_))⟩⟩)
    exact k
  · show bd_X0_reset_b9 _ Φ _ _
    unfold bd_X0_reset_b9
    refine br_f (nI_ge (b := 26) ha (by decide)) ⟨pk_in a 26 ha, nm_e (nm_e ?_)⟩
    rw [nI_1, bool_nar0]; exact q
/-- the class as it begins to compile -/
def cRst (σ : S9) : S9 := sF (sF (sA (sA (sF (sA (sA (sF (sF σ 4 0) 5 0) 12 (fl (σ.2.1 12) (-1) 27)) 13 (fl (σ.2.1 13) 0 26)) 6 0) 14 (upd (σ.2.1 14) 0 (-1))) 16 (upd (σ.2.1 16) 0 (-1))) 7 0) 8 26
theorem s_reset {σ : S9} {Φ : S9 → Prop} (k : Φ (cRst σ)) : wp_X0_reset σ Φ := by
  unfold wp_X0_reset wp_X6_empty
  exact nm_e (nm_e (s_fill24 (nm_e ⟨27, s_resetLoop k⟩)))
/-- the reference as it begins -/
def mRst (τ : S9) (W : Nat) (K V P : Nat → Int32) : S9 := sA (sF (sF (sF (sF (sF (sF (sF (sF (sF (sF (mW (sF τ 0 0) W K V P) 3 0) 4 (-1)) 5 0) 6 0) 7 0) 8 0) 11 0) 12 0) 13 0) 16 0) 15 (fl (τ.2.1 15) 0 26)
theorem s_m61 {τ : S9} {Ψ : Int32 → S9 → Prop} (k : wp_X11_come 1 0 (sA τ 15 (fl (τ.2.1 15) 0 26)) (fun σ1 => ∃ n : Nat, lp_X11_compile_b86 Ψ n σ1)) : lp_X11_compile_b61 Ψ 27 0 τ := by
  refine fill_any (W := fun n a σ => lp_X11_compile_b61 Ψ n a σ) (k := 15) (N := 26) (v := 0) (by omega) (fun n => ?_) (fun n a ha q => ?_)
  · show bd_X11_compile_b61 _ Ψ _ _
    unfold bd_X11_compile_b61
    exact br_t (by decide) k
  · show bd_X11_compile_b61 _ Ψ _ _
    unfold bd_X11_compile_b61
    refine br_f (nI_ge (b := 26) ha (by decide)) ⟨pk_in a 26 ha, nm_e (nm_e ?_)⟩
    rw [nI_1, bool_nar0]; exact q
theorem cntD_0 {B : AR} : ∀ {n : Nat}, (∀ q, q < n → B 13 q = 0) → cntD B n = 0 := by
  intro n
  induction n with
  | zero => intro _; rfl
  | succ n ih =>
    intro h
    unfold cntD
    rw [ih (fun q hq => h q (by omega)), if_pos (h n (by omega))]
/-- where both begin -/
theorem R0_init {σ τ : S9} {W : Nat} {K V P : Nat → Int32} : R0 (cRst σ) (mRst τ W K V P) (fun _ _ => 0) 0 0 0 0 0 0 0 0 := by
  have b13 : ∀ q, q < 26 → (cRst σ).2.1 13 q = 0 := fun q hq => by show fl _ 0 26 q = 0; exact fl_in hq
  have b12 : ∀ q, q < 27 → (cRst σ).2.1 12 q = -1 := fun q hq => by show fl _ (-1) 27 q = -1; exact fl_in hq
  have c15 : ∀ q, q < 26 → (mRst τ W K V P).2.1 15 q = 0 := fun q hq => by show fl _ 0 26 q = 0; exact fl_in hq
  have b14 : (cRst σ).2.1 14 0 = -1 := by show upd (σ.2.1 14) 0 (-1) 0 = -1; exact pk_us
  have b16 : (cRst σ).2.1 16 0 = -1 := by show upd (σ.2.1 16) 0 (-1) 0 = -1; exact pk_us
  have hnD : ¬ inD (cRst σ).2.1 0 := fun z => by have := z.1; omega
  have hMN : MN (cRst σ).2.1 (mRst τ W K V P).2.1 (fun _ _ => 0) 0 0 0 := Or.inl ⟨b16, b12 26 (by omega), JJ_rf (Nat.le_refl _)⟩
  refine ⟨⟨⟨rfl, by omega, rfl, rfl, rfl, by omega, rfl, rfl, by omega, rfl, rfl⟩, ⟨fun s hs => by omega, fun s hs => by omega, fun s hs => by omega, fun s t h1 h2 => by omega⟩, ⟨b14, fun e h1 h2 => by omega, fun e he => Or.inl ?_⟩, fun q hq => Or.inl ⟨b13 q hq, c15 q hq⟩, (cntD_0 b13).symm, fun s hs => by omega, fun s t h1 h2 => by omega, fun s hs => by omega, fun x hx => by omega, Nat.le_refl _, fun s hs => by omega, fun s hs => by omega⟩, ⟨rfl, rfl, fun k hk => by omega⟩, ⟨fun _ => ⟨hMN, fun l hl => by omega⟩, fun z => by omega⟩, ⟨fun z => absurd z hnD, fun _ => ⟨rfl, fun x hx => by omega, ⟨0, hMN⟩, fun q hq _ => b12 q (by omega)⟩⟩, ?_, rfl⟩
  · have : e = 0 := by omega
    subst this; exact b16
  · unfold RM
    rw [if_neg hnD]
    show 0 + 0 + 0 ≤ 0
    omega
theorem k_compile {σ τ : S9} {lim : Nat} (h : RR σ τ lim) : ∃ (r : Int32) (PB PC : S9 → Prop), (∀ σ' τ', PB σ' → PC τ' → RR σ' τ' lim) ∧ (∀ (Φ : Int32 → S9 → Prop), (∀ σ', PB σ' → Φ r σ') → wp_X10_compile σ Φ) ∧ ∀ (Ψ : Int32 → S9 → Prop), (∀ τ', PC τ' → Ψ r τ') → wp_X11_compile τ Ψ := by
  obtain ⟨⟨L, t1, t2, t3, t4⟩, ⟨wn, hwn⟩, inp, ⟨u1, u2, u3, u4⟩, -⟩ := h
  obtain ⟨t, ht⟩ : ∃ t, t = σ.2.1 0 := ⟨_, rfl⟩
  have hτt : τ.2.1 0 = t := by rw [ht, t3]
  rw [← ht] at t4
  obtain ⟨W, pos, K, V, P, hlex, hpart⟩ := s_part (τ := sF τ 0 0) (L := L) t2 (by show TextOk (τ.2.1 0) L; rw [hτt]; exact t4)
  have hlex' : LexR t L W pos K V P := by
    have : (sF τ 0 0).2.1 0 = t := hτt
    rw [this] at hlex; exact hlex
  have hp0 : pos 0 = 0 := hlex'.1.1
  -- the class at its first word
  obtain ⟨b0, hb0⟩ : ∃ b0, b0 = cWord (sF (cRst σ) 11 0) (nI (nb t L 0)) (wS t L (nb t L 0)) (nI (wE t L (nb t L 0))) (wV t L (nb t L 0) σ.2.2) := ⟨_, rfl⟩
  have h13 : b0.1 13 = nI wn := by rw [hb0]; exact hwn
  have hCs : Cs b0 (stk (b0.2.1 17) (b0.2.1 18) wn) b0 := Cs_self h13
  obtain ⟨w0, hw0⟩ : ∃ w0, w0 = stk (b0.2.1 17) (b0.2.1 18) wn := ⟨_, rfl⟩
  rw [← hw0] at hCs
  obtain ⟨c0, hc0⟩ : ∃ c0, c0 = mRst τ (W + 1) K V P := ⟨_, rfl⟩
  have hSt0 : St c0 [] c0 := St_self (n := 0) (by rw [hc0]; rfl)
  have hLP : LPW t L W pos K V P b0 c0 w0 [(1, 0)] 0 := by
    rw [hb0, hc0]
    refine ⟨QQ_wp (wp := 0) (Or.inl ⟨rfl, fun _ _ => 0, 0, 0, 0, 0, 0, 0, 0, R0_init, Nat.le_refl _, rfl⟩) (Nat.zero_le _), t1, ht.symm, by rw [hp0]; rfl, by rw [hp0]; rfl, by rw [hp0]; rfl, ⟨σ.2.2, by rw [hp0]; rfl⟩, rfl, rfl, rfl, rfl, rfl⟩
  have cls : ∀ (n : Nat) (Φ : Int32 → S9 → Prop), lp_X0_firstFault_b13 (fun r1 σ1 => (r1 = (-1 : Int32) → ∀ σ4 : S9, σ4 = sF σ1 0 (1 : Int32) → ∀ σ5 : S9, σ5 = sF σ4 1 (0 : Int32) → Φ (r1 + (1 : Int32)) σ5) ∧ (¬ r1 = (-1 : Int32) → ∀ σ2 : S9, σ2 = sF σ1 0 (0 : Int32) → ∀ σ3 : S9, σ3 = sF σ2 1 (0 : Int32) → Φ (r1 + (1 : Int32)) σ3)) n (nI 0) b0 → wp_X10_compile σ Φ := by
    intro n Φ q
    unfold wp_X10_compile wp_X0_firstFault
    refine s_reset ?_
    unfold wp_X9_toFirst
    refine nm_e (s_toNext (L := L) (b := 0) t1 (by show TextOk (σ.2.1 0) L; rw [← ht]; exact t4) (Nat.zero_le _) rfl (nm_e ⟨n, ?_⟩))
    rw [show (sF (cRst σ) 11 0).2.1 0 = t from ht.symm, show (sF (cRst σ) 11 0).2.2 = σ.2.2 from rfl, ← hb0]
    exact q
  have mdl : ∀ (Ψ : Int32 → S9 → Prop), MG c0 [(1, 0)] Ψ → wp_X11_compile τ Ψ := by
    intro Ψ ⟨n, q⟩
    unfold wp_X11_compile
    refine nm_e (hpart _ (nm_e (nm_e (nm_e (nm_e (nm_e (nm_e (nm_e (nm_e (nm_e (nm_e (nm_e ⟨27, s_m61 ?_⟩))))))))))))
    refine s_come (c := c0) (l := []) ?_ (by decide) (fun τ' h' => ⟨n, q τ' h'⟩)
    rw [hc0] at hSt0 ⊢
    exact hSt0
  have keepB : WX σ b0 := by rw [hb0]; exact ⟨rfl, rfl, rfl, rfl⟩
  have keepC : c0.1 0 = 0 ∧ c0.1 1 = τ.1 1 ∧ c0.1 16 = 0 ∧ c0.1 22 = τ.1 22 ∧ c0.2.1 0 = τ.2.1 0 ∧ c0.2.1 24 = τ.2.1 24 := by rw [hc0]; exact ⟨rfl, rfl, rfl, rfl, rfl, rfl⟩
  rcases lp_all t4 hlex' W 0 b0 c0 w0 [(1, 0)] (by omega) hLP with ⟨p, p1, p2, c1, l1, m, p3, p4, p5, p6, p7⟩ | ⟨b', c', w', g, S, m, np, pl, pr, pj, wp, q1, q2, q3, q4, q5, q6, q7⟩
  · -- a fault at p
    refine ⟨nI (p + 1), fun σ' => σ'.1 0 = 0 ∧ σ'.1 1 = 0 ∧ WX σ σ' ∧ ∃ n : Nat, σ'.1 13 = nI n, fun τ' => (τ'.1 0 = 0 ∧ τ'.1 1 = τ.1 1 ∧ τ'.1 10 = 0 ∧ τ'.1 16 = 0 ∧ τ'.1 22 = τ.1 22) ∧ τ'.2.1 0 = τ.2.1 0 ∧ τ'.2.1 24 = τ.2.1 24, fun σ' τ' hB hC => ?_, fun Φ k => cls (W + 1) Φ (p2 _ (fun b1 w1 σ1 z1 z2 => br_f (nIm1 (by omega)) (nm_e (nm_e ?_))) b0 hCs), fun Ψ k => mdl Ψ (p7 Ψ ?_)⟩
    · obtain ⟨x1, x2, ⟨x3, x4, x5, x6⟩, x7⟩ := hB
      obtain ⟨⟨y1, y2, y3, y4, y5⟩, y6, y7⟩ := hC
      refine ⟨⟨L, x3.trans t1, y2.trans t2, by rw [x5, y6]; exact t3, by rw [x5, ← ht]; exact t4⟩, x7, inp, ⟨x4.trans u1, y5.trans u2, u3, by rw [x6, y7]; exact u4⟩, Or.inl ⟨x1, y3, x2, y4⟩⟩
    · rw [nI_1]
      refine k _ ⟨rfl, rfl, ?_, w1.length, ?_⟩
      · have hx := keepB.trans z1
        exact ⟨by show σ1.1 2 = _; rw [Cs_1 z2 (show (2 : Nat) ≠ 13 by decide)]; exact hx.1, by show σ1.1 3 = _; rw [Cs_1 z2 (show (3 : Nat) ≠ 13 by decide)]; exact hx.2.1, by show σ1.2.1 0 = _; rw [Cs_2 z2 (show (0 : Nat) ≠ 17 by decide) (by decide)]; exact hx.2.2.1, by show σ1.2.1 1 = _; rw [Cs_2 z2 (show (1 : Nat) ≠ 17 by decide) (by decide)]; exact hx.2.2.2⟩
      · show σ1.1 13 = _
        exact Cs_13 z2
    · have hne : ¬ nI p = -1 := nIm1 (by omega)
      refine mg_end (m := m) (Or.inr hne) p4 p5 p6 (fun z => absurd z hne) (fun _ τ' h' => ?_)
      rw [show (sF c1 4 (nI p)).1 4 + 1 = nI (p + 1) from nI_1 p]
      obtain ⟨⟨e0, e1, e16, e22⟩, ea0, ea24⟩ := p3
      refine k τ' ⟨⟨?_, ?_, ?_, ?_, ?_⟩, ?_, ?_⟩
      · rw [St_1 h' (show (0 : Nat) ≠ 5 by decide)]; exact e0.trans keepC.1
      · rw [St_1 h' (show (1 : Nat) ≠ 5 by decide)]; exact e1.trans keepC.2.1
      · rw [St_1 h' (show (10 : Nat) ≠ 5 by decide)]; rfl
      · rw [St_1 h' (show (16 : Nat) ≠ 5 by decide)]; exact e16.trans keepC.2.2.1
      · rw [St_1 h' (show (22 : Nat) ≠ 5 by decide)]; exact e22.trans keepC.2.2.2.1
      · rw [St_2 h' (show (0 : Nat) ≠ 4 by decide) (by decide)]; exact ea0.trans keepC.2.2.2.2.1
      · rw [St_2 h' (show (24 : Nat) ≠ 4 by decide) (by decide)]; exact ea24.trans keepC.2.2.2.2.2
  · -- a program
    have hPG := PG_of q1 q2
    obtain ⟨n1, n2, n3, n4, n5, n6, n7, n8, n9, n10, n11⟩ := q1.sm.num
    have hm := RM_m q1.rm n2 n9
    have hwx := keepB.trans q3
    refine ⟨0, fun σ' => ∃ σ1, Cs (sA b' 8 (lkA b'.2.1 S)) w' σ1 ∧ σ' = sF (sF σ1 0 1) 1 0, fun τ' => St (sF (mCode c' 13 0 (-1) m) 10 1) [] τ', fun σ' τ' hB hC => ?_, fun Φ k => cls (W + 1) Φ (q6 _ (fun σ1 z => s_link2 z n1 n2 (par_ok (d := 0) (xo := -1) (xu := -1) q1.sm) (fun σ2 h2 => br_t rfl (nm_e (nm_e ?_)))) b0 hCs), fun Ψ k => mdl Ψ (q7 Ψ (mg_end (m := m) (Or.inl rfl) (by decide) n10 (by omega) (fun _ τ' h' => k τ' h') (fun z => absurd q5 z)))⟩
    · obtain ⟨σ1, hσ1, rfl⟩ := hB
      have s1 : ∀ k, k ≠ 13 → k ≠ 0 → k ≠ 1 → (sF (sF σ1 0 1) 1 0).1 k = b'.1 k := fun k e1 e2 e3 => by
        show upd (upd σ1.1 0 1) 1 0 k = _
        rw [pk_un e3, pk_un e2]; exact Cs_1 hσ1 e1
      have a1 : ∀ k, k ≠ 17 → k ≠ 18 → (sF (sF σ1 0 1) 1 0).2.1 k = (sA b' 8 (lkA b'.2.1 S)).2.1 k := fun k e1 e2 => Cs_2 hσ1 e1 e2
      have s2 : ∀ k, k ≠ 5 → k ≠ 10 → k ≠ 11 → τ'.1 k = c'.1 k := fun k e1 e2 e3 => by
        rw [St_1 hC e1]
        show upd (upd c'.1 11 _) 10 1 k = _
        rw [pk_un e2, pk_un e3]
      have a2 : ∀ k, k ≠ 4 → k ≠ 5 → τ'.2.1 k = (mCode c' 13 0 (-1) m).2.1 k := fun k e1 e2 => St_2 hC e1 e2
      have hPG' : PG (sF (sF σ1 0 1) 1 0).2.1 τ'.2.1 g S (m + 1) pl := PG_up hPG ⟨a1 2 (by decide) (by decide), a1 3 (by decide) (by decide), a1 4 (by decide) (by decide), a1 6 (by decide) (by decide), a1 7 (by decide) (by decide), a1 8 (by decide) (by decide), a1 9 (by decide) (by decide), a1 10 (by decide) (by decide), a1 11 (by decide) (by decide), a1 12 (by decide) (by decide), a1 13 (by decide) (by decide)⟩ ⟨a2 6 (by decide) (by decide), a2 7 (by decide) (by decide), a2 8 (by decide) (by decide), a2 9 (by decide) (by decide), a2 10 (by decide) (by decide), a2 11 (by decide) (by decide), a2 12 (by decide) (by decide), a2 13 (by decide) (by decide), a2 14 (by decide) (by decide)⟩
      obtain ⟨⟨e0, e1, e16, e22⟩, ea0, ea24⟩ := q4
      have A0 : (sF (sF σ1 0 1) 1 0).2.1 0 = σ.2.1 0 := (a1 0 (by decide) (by decide)).trans hwx.2.2.1
      have A1 : (sF (sF σ1 0 1) 1 0).2.1 1 = σ.2.1 1 := (a1 1 (by decide) (by decide)).trans hwx.2.2.2
      have T0 : τ'.2.1 0 = τ.2.1 0 := (a2 0 (by decide) (by decide)).trans (ea0.trans keepC.2.2.2.2.1)
      have T24 : τ'.2.1 24 = τ.2.1 24 := (a2 24 (by decide) (by decide)).trans (ea24.trans keepC.2.2.2.2.2)
      refine ⟨⟨L, (s1 2 (by decide) (by decide) (by decide)).trans (hwx.1.trans t1), (s2 1 (by decide) (by decide) (by decide)).trans (e1.trans (keepC.2.1.trans t2)), by rw [A0, T0]; exact t3, by rw [A0, ← ht]; exact t4⟩, ⟨w'.length, by show σ1.1 13 = _; exact Cs_13 hσ1⟩, inp, ⟨(s1 3 (by decide) (by decide) (by decide)).trans (hwx.2.1.trans u1), (s2 22 (by decide) (by decide) (by decide)).trans (e22.trans (keepC.2.2.2.1.trans u2)), u3, by rw [A1, T24]; exact u4⟩, Or.inr ⟨g, S, m + 1, pl, np, ⟨rfl, ?_, hPG', (s1 4 (by decide) (by decide) (by decide)).trans n1, (s2 8 (by decide) (by decide) (by decide)).trans n3, (s1 5 (by decide) (by decide) (by decide)).trans n7, (s2 13 (by decide) (by decide) (by decide)).trans n8, ?_⟩, Or.inl ⟨rfl, (s2 16 (by decide) (by decide) (by decide)).trans (e16.trans keepC.2.2.1)⟩⟩⟩
      · rw [St_1 hC (show (10 : Nat) ≠ 5 by decide)]; rfl
      · rw [St_1 hC (show (11 : Nat) ≠ 5 by decide)]; rfl
    · exact k _ ⟨σ2, h2, rfl⟩
