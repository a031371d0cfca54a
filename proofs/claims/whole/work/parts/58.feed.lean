/-! ===== feed ===== -/
def bt (a : Int32) (k : Nat) : Int32 := (ush a (nI (8 * k))) &&& 255
theorem bt_nat (a : Int32) (k : Nat) : ∃ q : Nat, q < 256 ∧ bt a k = nI q := pk_andE _ 8 (by decide)
def cnF (a : Int32) : Nat → Nat → Nat
  | _, 0 => 0
  | k, d + 1 => (if bt a k = 0 then 0 else 1) + cnF a (k + 1) d
def sg (a : Int32) : Nat := cnF a 0 4
theorem cnF_le (a : Int32) : ∀ (d k : Nat), cnF a k d ≤ d := by
  intro d
  induction d with
  | zero => intro k; exact Nat.le_refl _
  | succ d ih =>
    intro k
    have := ih (k + 1)
    unfold cnF
    split <;> omega
theorem sg_le (a : Int32) : sg a ≤ 4 := cnF_le a 4 0
theorem s_signsIn {a : Int32} {σ : S9} {Φ : Int32 → S9 → Prop} (k : Φ (nI (sg a)) σ) : wp_X10_signsIn a σ Φ := by
  have key : ∀ (d c j : Nat), j + d = 4 → Φ (nI (c + cnF a j d)) σ → lp_X10_signsIn_b4 Φ (d + 1) a (nI c) (nI (8 * j)) σ := by
    intro d
    induction d with
    | zero =>
      intro c j hj q
      have e : j = 4 := by omega
      subst e
      show bd_X10_signsIn_b4 _ Φ _ _ _ _
      unfold bd_X10_signsIn_b4
      exact br_t (by decide) q
    | succ d ih =>
      intro c j hj q
      show bd_X10_signsIn_b4 (lp_X10_signsIn_b4 Φ (d + 1)) Φ _ _ _ _
      unfold bd_X10_signsIn_b4
      have e8 : nI (8 * j) + 8 = nI (8 * (j + 1)) := by rw [show (8 : Int32) = nI 8 from rfl, nI_add, show 8 * (j + 1) = 8 * j + 8 by omega]
      rw [e8, nI_1]
      refine br_f (nI_ge (b := 32) (by omega) (by decide)) ?_
      unfold cnF at q
      refine br_c (fun z => nm_e ?_) (fun z => nm_e (nm_e ?_))
      · have z' : bt a j = 0 := z
        rw [if_pos z', Nat.zero_add] at q
        exact ih c (j + 1) (by omega) q
      · have z' : ¬ bt a j = 0 := z
        rw [if_neg z', ← Nat.add_assoc] at q
        exact ih (c + 1) (j + 1) (by omega) q
  unfold wp_X10_signsIn
  refine nm_e (nm_e ⟨5, key 4 0 0 (by omega) ?_⟩)
  rw [Nat.zero_add]; exact k
theorem s_signsOf {a : Int32} {τ : S9} {Φ : Int32 → S9 → Prop} (k : Φ (nI (sg a)) τ) : wp_X11_signsOf a τ Φ := by
  have key : ∀ (d c j : Nat), j + d = 4 → Φ (nI (c + cnF a j d)) τ → lp_X11_signsOf_b4 Φ (d + 1) a (nI c) (nI j) τ := by
    intro d
    induction d with
    | zero =>
      intro c j hj q
      have e : j = 4 := by omega
      subst e
      show bd_X11_signsOf_b4 _ Φ _ _ _ _
      unfold bd_X11_signsOf_b4
      exact br_t (by decide) q
    | succ d ih =>
      intro c j hj q
      show bd_X11_signsOf_b4 (lp_X11_signsOf_b4 Φ (d + 1)) Φ _ _ _ _
      unfold bd_X11_signsOf_b4
      have e8 : (8 : Int32) * nI j = nI (8 * j) := by rw [show (8 : Int32) = nI 8 from rfl, pk_mul]
      rw [e8, nI_1, nI_1]
      refine br_f (nI_ge (b := 4) (by omega) (by decide)) ?_
      unfold cnF at q
      refine br_c (fun z => nm_e ?_) (fun z => nm_e (nm_e ?_))
      · have z' : bt a j = 0 := z
        rw [if_pos z', Nat.zero_add] at q
        exact ih c (j + 1) (by omega) q
      · have z' : ¬ bt a j = 0 := z
        rw [if_neg z', ← Nat.add_assoc] at q
        exact ih (c + 1) (j + 1) (by omega) q
  unfold wp_X11_signsOf
  refine nm_e (nm_e ⟨5, key 4 0 0 (by omega) ?_⟩)
  rw [Nat.zero_add]; exact k
/-- the row and its length behind the signs of one number -/
def apF (a : Int32) : Nat → Nat → (Nat → Int32) → Nat → (Nat → Int32) × Nat
  | _, 0, t, L => (t, L)
  | k, d + 1, t, L => if bt a k = 0 then apF a (k + 1) d t L else apF a (k + 1) d (upd t L (bt a k)) (L + 1)
theorem apF_len (a : Int32) : ∀ (d k : Nat) (t : Nat → Int32) (L : Nat), (apF a k d t L).2 = L + cnF a k d := by
  intro d
  induction d with
  | zero => intro k t L; rfl
  | succ d ih =>
    intro k t L
    unfold apF cnF
    by_cases e : bt a k = 0
    · rw [if_pos e, if_pos e, ih]; omega
    · rw [if_neg e, if_neg e, ih]; omega
theorem apF_ok (a : Int32) : ∀ (d k : Nat) (t : Nat → Int32) (L : Nat), TextOk t L → L + d ≤ 3000 ∨ L + cnF a k d ≤ 3000 → TextOk (apF a k d t L).1 (apF a k d t L).2 := by
  intro d
  induction d with
  | zero => intro k t L h _; exact h
  | succ d ih =>
    intro k t L h hl
    have hc := cnF_le a d (k + 1)
    have hl2 : L + cnF a k (d + 1) ≤ 3000 := by
      rcases hl with z | z
      · have := cnF_le a (d + 1) k; omega
      · exact z
    unfold cnF at hl2
    unfold apF
    by_cases e : bt a k = 0
    · rw [if_pos e] at hl2 ⊢
      exact ih (k + 1) t L h (Or.inr (by omega))
    · rw [if_neg e] at hl2 ⊢
      refine ih (k + 1) _ (L + 1) ⟨by omega, fun i hi => ?_⟩ (Or.inr (by omega))
      by_cases ei : i = L
      · rw [ei, pk_us]
        obtain ⟨q, q1, q2⟩ := bt_nat a k
        refine ⟨q, ?_, q1, q2⟩
        rcases Nat.eq_zero_or_pos q with z | z
        · rw [z] at q2; exact absurd q2 e
        · exact z
      · rw [pk_un ei]; exact h.2 i (by omega)
def ap (a : Int32) (t : Nat → Int32) (L : Nat) : (Nat → Int32) × Nat := apF a 0 4 t L
theorem i2c_nI {q : Nat} (h : q < 256) : vp_nar .char (i2c (nI q)) = nI q := by
  have e : i2c (nI q) = nI q := by
    unfold i2c
    rw [pk_char, pk_tn (by omega), Nat.mod_eq_of_lt (by omega)]
  rw [e]; exact char_nar (by omega)
theorem s_append {a : Int32} {σ : S9} {t : Nat → Int32} {L : Nat} {Φ : S9 → Prop} (hL : L + sg a ≤ 3000) (k : Φ (sF (sA σ 0 (ap a t L).1) 2 (nI (ap a t L).2))) : wp_X8_append a (sF (sA σ 0 t) 2 (nI L)) Φ := by
  have key : ∀ (d j : Nat) (t : Nat → Int32) (L : Nat), j + d = 4 → L + cnF a j d ≤ 3000 → Φ (sF (sA σ 0 (apF a j d t L).1) 2 (nI (apF a j d t L).2)) → lp_X8_append_b2 Φ (d + 1) a (nI (8 * j)) (sF (sA σ 0 t) 2 (nI L)) := by
    intro d
    induction d with
    | zero =>
      intro j t L hj _ q
      have e : j = 4 := by omega
      subst e
      show bd_X8_append_b2 _ Φ _ _ _
      unfold bd_X8_append_b2
      exact br_t (by decide) q
    | succ d ih =>
      intro j t L hj hl q
      show bd_X8_append_b2 (lp_X8_append_b2 Φ (d + 1)) Φ _ _ _
      unfold bd_X8_append_b2
      have e8 : nI (8 * j) + 8 = nI (8 * (j + 1)) := by rw [show (8 : Int32) = nI 8 from rfl, nI_add, show 8 * (j + 1) = 8 * j + 8 by omega]
      rw [e8]
      refine br_f (nI_ge (b := 32) (by omega) (by decide)) (nm_e ?_)
      unfold cnF at hl
      unfold apF at q
      obtain ⟨b, b1, b2⟩ := bt_nat a j
      refine br_c (fun z => nm_e ?_) (fun z => ?_)
      · have z' : bt a j = 0 := z
        rw [if_pos z'] at q hl
        exact ih (j + 1) t L (by omega) (by omega) q
      · have z' : ¬ bt a j = 0 := z
        rw [if_neg z'] at q hl
        rw [show (sF (sA σ 0 t) 2 (nI L)).1 2 = nI L from rfl]
        refine pk_le 3000 L (fun y => absurd y (by omega)) (fun _ => ⟨pk_in L 3000 (by omega), nm_e (nm_e (nm_e ?_))⟩)
        have hv : vp_nar .char (i2c ((ush a (nI (8 * j))) &&& 255)) = bt a j := by
          show vp_nar .char (i2c (bt a j)) = _
          rw [b2]; exact i2c_nI b1
        rw [hv, nI_clamp (by omega), show (sF (sA σ 0 t) 2 (nI L)).2.1 0 = t from rfl, show (sA (sF (sA σ 0 t) 2 (nI L)) 0 (upd t L (bt a j))).1 2 = nI L from rfl, nI_1]
        have es : sF (sA (sF (sA σ 0 t) 2 (nI L)) 0 (upd t L (bt a j))) 2 (nI (L + 1)) = sF (sA σ 0 (upd t L (bt a j))) 2 (nI (L + 1)) := by
          unfold sF sA
          exact Prod.ext (upd_upd _ _ _ _) (Prod.ext (vup_vup _ _ _ _) rfl)
        rw [es]
        exact ih (j + 1) _ (L + 1) (by omega) (by omega) q
  unfold wp_X8_append
  exact nm_e ⟨5, key 4 0 t L (by omega) hL k⟩
theorem s_feedOne {a : Int32} {τ : S9} {t : Nat → Int32} {L : Nat} {Φ : S9 → Prop} (hL : L + sg a ≤ 3000) (k : Φ (sF (sA τ 0 (ap a t L).1) 1 (nI (ap a t L).2))) : wp_X11_feedOne a (sF (sA τ 0 t) 1 (nI L)) Φ := by
  have key : ∀ (d j : Nat) (t : Nat → Int32) (L : Nat), j + d = 4 → L + cnF a j d ≤ 3000 → Φ (sF (sA τ 0 (apF a j d t L).1) 1 (nI (apF a j d t L).2)) → lp_X11_feedOne_b2 Φ (d + 1) a (nI j) (sF (sA τ 0 t) 1 (nI L)) := by
    intro d
    induction d with
    | zero =>
      intro j t L hj _ q
      have e : j = 4 := by omega
      subst e
      show bd_X11_feedOne_b2 _ Φ _ _ _
      unfold bd_X11_feedOne_b2
      exact br_t (by decide) q
    | succ d ih =>
      intro j t L hj hl q
      show bd_X11_feedOne_b2 (lp_X11_feedOne_b2 Φ (d + 1)) Φ _ _ _
      unfold bd_X11_feedOne_b2
      have e8 : (8 : Int32) * nI j = nI (8 * j) := by rw [show (8 : Int32) = nI 8 from rfl, pk_mul]
      rw [e8, nI_1]
      refine br_f (nI_ge (b := 4) (by omega) (by decide)) (nm_e ?_)
      unfold cnF at hl
      unfold apF at q
      refine br_c (fun z => nm_e ?_) (fun z => ?_)
      · have z' : bt a j = 0 := z
        rw [if_pos z'] at q hl
        exact ih (j + 1) t L (by omega) (by omega) q
      · have z' : ¬ bt a j = 0 := z
        rw [if_neg z'] at q hl
        rw [show (sF (sA τ 0 t) 1 (nI L)).1 1 = nI L from rfl, nI_clamp (by omega)]
        refine ⟨pk_in L 3000 (by omega), nm_e (nm_e (nm_e ?_))⟩
        rw [show (ush a (nI (8 * j))) &&& 255 = bt a j from rfl, show (sF (sA τ 0 t) 1 (nI L)).2.1 0 = t from rfl, show (sA (sF (sA τ 0 t) 1 (nI L)) 0 (upd t L (bt a j))).1 1 = nI L from rfl, nI_1]
        have es : sF (sA (sF (sA τ 0 t) 1 (nI L)) 0 (upd t L (bt a j))) 1 (nI (L + 1)) = sF (sA τ 0 (upd t L (bt a j))) 1 (nI (L + 1)) := by
          unfold sF sA
          exact Prod.ext (upd_upd _ _ _ _) (Prod.ext (vup_vup _ _ _ _) rfl)
        rw [es]
        exact ih (j + 1) _ (L + 1) (by omega) (by omega) q
  unfold wp_X11_feedOne
  exact nm_e ⟨5, key 4 0 t L (by omega) hL k⟩
theorem RR_text {σ τ : S9} {lim L : Nat} {t : Nat → Int32} (h : RR σ τ lim) (ht : TextOk t L) : RR (sF (sA σ 0 t) 2 (nI L)) (sF (sA (sF τ 0 0) 0 t) 1 (nI L)) lim := by
  obtain ⟨-, hW, inp, hI, hp⟩ := h
  refine ⟨⟨L, rfl, rfl, rfl, ht⟩, hW, inp, hI, ?_⟩
  rcases hp with hp | ⟨g, S, M, pl, np, ⟨p1, p2, p3, p4, p5, p6, p7, p8⟩, hs⟩
  · exact Or.inl hp
  · have hPG : PG (sF (sA σ 0 t) 2 (nI L)).2.1 (sF (sA (sF τ 0 0) 0 t) 1 (nI L)).2.1 g S M pl := PG_up p3 ⟨rfl, rfl, rfl, rfl, rfl, rfl, rfl, rfl, rfl, rfl, rfl⟩ ⟨rfl, rfl, rfl, rfl, rfl, rfl, rfl, rfl, rfl⟩
    refine Or.inr ⟨g, S, M, pl, np, ⟨p1, p2, hPG, p4, p5, p6, p7, p8⟩, ?_⟩
    rcases hs with hs | ⟨s1, s2, rd, n, o, ⟨⟨x1, x2, x3, x4, x5, x6, x7, x8, x9, x10, x11, x12⟩, x13⟩⟩
    · exact Or.inl hs
    · exact Or.inr ⟨s1, s2, rd, n, o, ⟨⟨hPG, x2, x3, x4, x5, x6, x7, x8, FR_up x9 rfl rfl rfl rfl, x10, x11, x12⟩, x13⟩⟩
def wt_feed (a b c d e : Int32) (σ : S9) (Φ Θ : Int32 → S9 → Prop) : Prop := wp_X10_signsIn a σ (fun r1 σ1 => wp_X10_signsIn b σ1 (fun r2 σ2 => wp_X10_signsIn c σ2 (fun r3 σ3 => wp_X10_signsIn d σ3 (fun r4 σ4 => wp_X10_signsIn e σ4 (fun r5 σ5 => (3000 < σ5.1 2 + ((((r1 + r2) + r3) + r4) + r5) → Θ 1 σ5) ∧ (¬ 3000 < σ5.1 2 + ((((r1 + r2) + r3) + r4) + r5) → wp_X8_append a σ5 (fun σ6 => wp_X8_append b σ6 (fun σ7 => wp_X8_append c σ7 (fun σ8 => wp_X8_append d σ8 (fun σ9 => wp_X8_append e σ9 (fun σ10 => Φ (σ10.1 2) σ10))))))))))) 
theorem k_feed {σ τ : S9} {lim : Nat} (a b c d e : Int32) (h : RR σ τ lim) : OKC lim (wt_feed a b c d e σ) (wp_X11_feed a b c d e τ) := by
  have h0 := h
  obtain ⟨⟨L, t1, t2, t3, t4⟩, -⟩ := h0
  have hL3 := t4.1
  have s1 := sg_le a
  have s2 := sg_le b
  have s3 := sg_le c
  have s4 := sg_le d
  have s5 := sg_le e
  have sum1 : nI L + (nI (sg a) + nI (sg b) + nI (sg c) + nI (sg d) + nI (sg e)) = nI (L + (sg a + sg b + sg c + sg d + sg e)) := by rw [nI_add, nI_add, nI_add, nI_add, nI_add]
  have sum2 : nI L + nI (sg a) + nI (sg b) + nI (sg c) + nI (sg d) + nI (sg e) = nI (L + (sg a + sg b + sg c + sg d + sg e)) := by rw [nI_add, nI_add, nI_add, nI_add, nI_add]; congr 1; omega
  have cls : ∀ Φ Θ : Int32 → S9 → Prop, ((3000 < nI (L + (sg a + sg b + sg c + sg d + sg e)) → Θ 1 σ) ∧ (¬ 3000 < nI (L + (sg a + sg b + sg c + sg d + sg e)) → wp_X8_append a σ (fun σ6 => wp_X8_append b σ6 (fun σ7 => wp_X8_append c σ7 (fun σ8 => wp_X8_append d σ8 (fun σ9 => wp_X8_append e σ9 (fun σ10 => Φ (σ10.1 2) σ10))))))) → wt_feed a b c d e σ Φ Θ := by
    intro Φ Θ k
    unfold wt_feed
    refine s_signsIn (s_signsIn (s_signsIn (s_signsIn (s_signsIn ?_))))
    rw [t1, sum1]; exact k
  have mdl : ∀ Ψ : Int32 → S9 → Prop, ((3000 < nI (L + (sg a + sg b + sg c + sg d + sg e)) → wp_X11_feed_b43 Ψ a b c d e 0 τ) ∧ (¬ 3000 < nI (L + (sg a + sg b + sg c + sg d + sg e)) → wp_X11_feed_b43 Ψ a b c d e 1 τ)) → wp_X11_feed a b c d e τ Ψ := by
    intro Ψ k
    unfold wp_X11_feed
    refine s_signsOf (s_signsOf (s_signsOf (s_signsOf (s_signsOf ?_))))
    rw [t2, sum2]; exact k
  by_cases hb : 3000 < L + (sg a + sg b + sg c + sg d + sg e)
  · have hlt : 3000 < nI (L + (sg a + sg b + sg c + sg d + sg e)) := nI_lt (a := 3000) hb (by omega)
    refine Or.inr ⟨1, 0, σ, sF τ 0 1, Or.inl rfl, RR_thrown h 1, rfl, fun Φ Θ k => cls Φ Θ (br_t hlt k), fun Ψ k => mdl Ψ (br_t hlt ?_)⟩
    unfold wp_X11_feed_b43
    exact s_goes0 (br_t rfl k)
  · have hlt : ¬ 3000 < nI (L + (sg a + sg b + sg c + sg d + sg e)) := nI_nlt (a := 3000) (by omega) (by decide)
    obtain ⟨t, ht⟩ : ∃ t, t = σ.2.1 0 := ⟨_, rfl⟩
    have e1 : sF (sA σ 0 t) 2 (nI L) = σ := by rw [ht, sA_self, ← t1, sF_self]
    have e2 : sF (sA (sF τ 0 0) 0 t) 1 (nI L) = sF τ 0 0 := by
      have : t = (sF τ 0 0).2.1 0 := by rw [ht]; exact t3
      rw [this, sA_self, ← t2]
      exact sF_self (sF τ 0 0) 1
    have ln : ∀ (x : Int32) (t : Nat → Int32) (L : Nat), (ap x t L).2 = L + sg x := fun x t L => apF_len x 4 0 t L
    have ok : ∀ (x : Int32) (t : Nat → Int32) (L : Nat), TextOk t L → L + sg x ≤ 3000 → TextOk (ap x t L).1 (ap x t L).2 := fun x t L h1 h2 => apF_ok x 4 0 t L h1 (Or.inr h2)
    rw [← ht] at t4
    obtain ⟨A, hA⟩ : ∃ A, A = ap a t L := ⟨_, rfl⟩
    obtain ⟨B, hB⟩ : ∃ B, B = ap b A.1 A.2 := ⟨_, rfl⟩
    obtain ⟨C, hC⟩ : ∃ C, C = ap c B.1 B.2 := ⟨_, rfl⟩
    obtain ⟨D, hD⟩ : ∃ D, D = ap d C.1 C.2 := ⟨_, rfl⟩
    obtain ⟨E, hE⟩ : ∃ E, E = ap e D.1 D.2 := ⟨_, rfl⟩
    have lA : A.2 = L + sg a := by rw [hA]; exact ln _ _ _
    have lB : B.2 = A.2 + sg b := by rw [hB]; exact ln _ _ _
    have lC : C.2 = B.2 + sg c := by rw [hC]; exact ln _ _ _
    have lD : D.2 = C.2 + sg d := by rw [hD]; exact ln _ _ _
    have oA : TextOk A.1 A.2 := by rw [hA]; exact ok _ _ _ t4 (by omega)
    have oB : TextOk B.1 B.2 := by rw [hB]; exact ok _ _ _ oA (by omega)
    have oC : TextOk C.1 C.2 := by rw [hC]; exact ok _ _ _ oB (by omega)
    have oD : TextOk D.1 D.2 := by rw [hD]; exact ok _ _ _ oC (by omega)
    have oE : TextOk E.1 E.2 := by rw [hE]; exact ok _ _ _ oD (by omega)
    refine Or.inl ⟨nI E.2, sF (sA σ 0 E.1) 2 (nI E.2), sF (sA (sF τ 0 0) 0 E.1) 1 (nI E.2), RR_text h oE, rfl, fun Φ Θ k => cls Φ Θ (br_f hlt ?_), fun Ψ k => mdl Ψ (br_f hlt ?_)⟩
    · rw [← e1]
      refine s_append (by omega) ?_
      rw [← hA]
      refine s_append (by omega) ?_
      rw [← hB]
      refine s_append (by omega) ?_
      rw [← hC]
      refine s_append (by omega) ?_
      rw [← hD]
      refine s_append (by omega) ?_
      rw [← hE]
      exact k
    · unfold wp_X11_feed_b43
      refine s_goes1 (br_f (by decide) ?_)
      rw [← e2]
      refine s_feedOne (by omega) ?_
      rw [← hA]
      refine s_feedOne (by omega) ?_
      rw [← hB]
      refine s_feedOne (by omega) ?_
      rw [← hC]
      refine s_feedOne (by omega) ?_
      rw [← hD]
      refine s_feedOne (by omega) ?_
      rw [← hE]
      exact k
