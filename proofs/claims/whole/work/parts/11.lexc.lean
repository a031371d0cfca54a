/-! ===== the class reads a number, a word; the brace behind a word ===== -/
theorem s_isTooGreat {σ : S9} {Φ : Int32 → S9 → Prop} (h1 : ¬ lg_cmp σ.2.2 2147483647 ≤ 0 → Φ 1 σ) (h0 : lg_cmp σ.2.2 2147483647 ≤ 0 → Φ 0 σ) : wp_X9_isTooGreat σ Φ := br_c h0 h1
theorem cWord_next (σ : S9) (p s e : Int32) (v v' : Int64) : sF (sL (cWord σ p s e v) v') 11 (e + 1) = cWord σ p s (e + 1) v' := by
  unfold sF sL cWord
  simp only [upd_upd]
theorem cWord_next0 (σ : S9) (p s e : Int32) (v : Int64) : sF (cWord σ p s e v) 11 (e + 1) = cWord σ p s (e + 1) v := by
  unfold sF cWord
  simp only [upd_upd]
theorem cWord_sign (σ : S9) (p s s' e : Int32) (v : Int64) : sF (cWord σ p s e v) 12 s' = cWord σ p s' e v := by
  unfold sF cWord
  simp only [upd_comm _ _ _ (show (11 : Nat) ≠ 12 by decide), upd_upd]
theorem cWord_11 (σ : S9) (p s e : Int32) (v : Int64) : (cWord σ p s e v).1 11 = e := rfl
theorem cWord_2 (σ : S9) (p s e : Int32) (v : Int64) : (cWord σ p s e v).1 2 = σ.1 2 := rfl
theorem cWord_21 (σ : S9) (p s e : Int32) (v : Int64) : (cWord σ p s e v).2.1 = σ.2.1 := rfl
theorem cWord_22 (σ : S9) (p s e : Int32) (v : Int64) : (cWord σ p s e v).2.2 = v := rfl
theorem s_readLoop {σ : S9} {Φ : S9 → Prop} {L : Nat} {p s : Int32} (hL : σ.1 2 = nI L) (ht : TextOk (σ.2.1 0) L) : ∀ (d e : Nat) (v : Int64), L - e = d → e ≤ L → Φ (cWord σ p 48 (nI (de (σ.2.1 0) L e)) (dv (σ.2.1 0) L e v)) → lp_X9_readNumber_b12 Φ (d + 1) (cWord σ p s (nI e) v) := by
  have h3 := ht.1
  intro d
  induction d with
  | zero =>
    intro e v h1 h2 k
    rw [de_end (by omega), dv_end (by omega)] at k
    show bd_X9_readNumber_b12 _ _ _
    unfold bd_X9_readNumber_b12
    rw [cWord_2, cWord_11, hL]
    refine pk_le L e (fun _ => nm_e ?_) (fun h => absurd h (by omega))
    rw [cWord_sign]; exact k
  | succ d ih =>
    intro e v h1 h2 k
    show bd_X9_readNumber_b12 _ _ _
    unfold bd_X9_readNumber_b12
    rw [cWord_2, cWord_11, hL]
    refine pk_le L e (fun h => absurd h (by omega)) (fun h => ?_)
    have hL' : (cWord σ p s (nI e) v).1 2 = nI L := hL
    have ht' : TextOk ((cWord σ p s (nI e) v).2.1 0) L := ht
    refine s_signAt hL' ht' (by omega) ?_
    rw [if_pos h, cWord_21]
    refine s_isDigit (fun q => br_f (by decide) ?_) (fun q => br_t rfl (nm_e ?_))
    · rw [de_dg h q, dv_dg h q] at k
      refine s_isTooGreat (fun g => br_f (by decide) (nm_e ?_)) (fun g => br_t rfl ?_)
      · rw [cWord_11, cWord_next0, nI_1]
        refine ih (e + 1) v (by omega) (by omega) ?_
        unfold dStep at k
        rw [cWord_22] at g
        rw [if_neg g] at k
        exact k
      · rw [cWord_11]
        refine s_signAt hL' ht' (by omega) ?_
        rw [if_pos h, cWord_21, cWord_22]
        refine nm_e (nm_e ?_)
        show lp_X9_readNumber_b12 _ _ (sF (sL (cWord σ p s (nI e) v) _) 11 (nI e + 1))
        rw [cWord_next, nI_1]
        refine ih (e + 1) _ (by omega) (by omega) ?_
        unfold dStep at k
        rw [cWord_22] at g
        rw [if_pos g] at k
        exact k
    · rw [de_no h q, dv_no h q] at k
      rw [cWord_sign]; exact k
theorem s_toNext {σ : S9} {Φ : S9 → Prop} {L b : Nat} (hL : σ.1 2 = nI L) (ht : TextOk (σ.2.1 0) L) (hb : b ≤ L) (h11 : σ.1 11 = nI b)
    (k : Φ (cWord σ (nI (nb (σ.2.1 0) L b)) (wS (σ.2.1 0) L (nb (σ.2.1 0) L b)) (nI (wE (σ.2.1 0) L (nb (σ.2.1 0) L b))) (wV (σ.2.1 0) L (nb (σ.2.1 0) L b) σ.2.2))) : wp_X9_toNext σ Φ := by
  unfold wp_X9_toNext
  have h3 := ht.1
  rw [h11]
  refine s_wordFrom hL ht hb (nm_e ?_)
  obtain ⟨p, hp⟩ : ∃ p, p = nb (σ.2.1 0) L b := ⟨_, rfl⟩
  rw [← hp] at k ⊢
  have hpL : p ≤ L := by rw [hp]; exact nb_le hb
  show wp_X8_signAt (nI p) (sF σ 10 (nI p)) _
  refine s_signAt (σ := sF σ 10 (nI p)) (L := L) hL ht (by omega) ?_
  refine ⟨?_, nm_e (nm_e ?_)⟩
  · by_cases hl : p < L
    · rw [if_pos hl]
      obtain ⟨q, h0, h1, h2⟩ := ht.2 p hl
      show narrow .char (.int (σ.2.1 0 p)) = .int (σ.2.1 0 p) ∧ fits .char (.int (σ.2.1 0 p)) = true
      rw [h2]; exact pk_charN (q := q) (by omega)
    · rw [if_neg hl]; exact ⟨rfl, rfl⟩
  · obtain ⟨x, hx⟩ : ∃ x, x = (if p < L then (sF σ 10 (nI p)).2.1 0 p else 0) := ⟨_, rfl⟩
    rw [← hx]
    show wp_X10_isDigit x (sF (sF (sF σ 10 (nI p)) 12 x) 11 (nI p + 1)) _
    have e1 : sF (sF (sF σ 10 (nI p)) 12 x) 11 (nI p + 1) = cWord σ (nI p) x (nI (p + 1)) σ.2.2 := by rw [nI_1]; rfl
    rw [e1]
    refine s_isDigit (fun q => br_f (by decide) ?_) (fun q => br_t rfl ?_)
    · by_cases hl : p < L
      · rw [if_pos hl] at hx
        have hx' : x = σ.2.1 0 p := hx
        rw [hx'] at q
        unfold wp_X9_readNumber
        refine nm_e ?_
        show ∃ n, lp_X9_readNumber_b12 _ n (sL (cWord σ (nI p) x (nI (p + 1)) σ.2.2) (x - 48).toInt64)
        have e2 : sL (cWord σ (nI p) x (nI (p + 1)) σ.2.2) (x - 48).toInt64 = cWord σ (nI p) x (nI (p + 1)) (x - 48).toInt64 := rfl
        rw [e2]
        refine ⟨_, s_readLoop hL ht _ (p + 1) _ rfl (by omega) ?_⟩
        unfold wS wE wV at k
        rw [if_pos hl, if_pos q, if_pos ⟨hl, q⟩, if_pos ⟨hl, q⟩, ← hx'] at k
        exact k
      · rw [if_neg hl] at hx
        rw [hx] at q
        exact absurd q.1 (by decide)
    · by_cases hl : p < L
      · rw [if_pos hl] at hx
        have hx' : x = σ.2.1 0 p := hx
        rw [hx'] at q
        unfold wS wE wV at k
        rw [if_pos hl, if_neg q, if_neg (fun z => q z.2), if_neg (fun z => q z.2), ← hx'] at k
        exact k
      · rw [if_neg hl] at hx
        unfold wS wE wV at k
        rw [if_neg hl, if_neg (fun z => hl z.1), if_neg (fun z => hl z.1), ← hx] at k
        exact k
theorem s_braceFollows {σ : S9} {Φ : Int32 → S9 → Prop} {L b : Nat} (hL : σ.1 2 = nI L) (ht : TextOk (σ.2.1 0) L) (hb : b ≤ L) (h11 : σ.1 11 = nI b)
    (h1 : wS (σ.2.1 0) L (nb (σ.2.1 0) L b) = 123 → Φ 1 σ) (h0 : ¬ wS (σ.2.1 0) L (nb (σ.2.1 0) L b) = 123 → Φ 0 σ) : wp_X9_braceFollows σ Φ := by
  unfold wp_X9_braceFollows
  have h3 := ht.1
  rw [h11]
  refine s_wordFrom hL ht hb ?_
  obtain ⟨p, hp⟩ : ∃ p, p = nb (σ.2.1 0) L b := ⟨_, rfl⟩
  rw [← hp] at h1 h0 ⊢
  have hpL : p ≤ L := by rw [hp]; exact nb_le hb
  refine s_signAt hL ht (by omega) ?_
  unfold wS at h1 h0
  by_cases hl : p < L
  · rw [if_pos hl] at h1 h0 ⊢
    by_cases q : isDg (σ.2.1 0 p)
    · rw [if_pos q] at h0
      refine br_f (fun e => ?_) (h0 (by decide))
      rw [e] at q; exact absurd q.2 (by decide)
    · rw [if_neg q] at h1 h0
      exact br_c h1 h0
  · rw [if_neg hl] at h0 ⊢
    rw [if_neg hl] at h1
    exact br_c h1 h0
