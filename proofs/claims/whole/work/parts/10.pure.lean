/-! ===== pure rows: reading states, small numbers ===== -/
theorem lit32 (k : Nat) : (OfNat.ofNat k : Int32) = nI k := rfl
theorem sF_1 (σ : S9) (k : Nat) (v : Int32) : (sF σ k v).1 = upd σ.1 k v := rfl
theorem sF_21 (σ : S9) (k : Nat) (v : Int32) : (sF σ k v).2.1 = σ.2.1 := rfl
theorem sF_22 (σ : S9) (k : Nat) (v : Int32) : (sF σ k v).2.2 = σ.2.2 := rfl
theorem sA_1 (σ : S9) (k : Nat) (f : Nat → Int32) : (sA σ k f).1 = σ.1 := rfl
theorem sA_21 (σ : S9) (k : Nat) (f : Nat → Int32) : (sA σ k f).2.1 = va_up σ.2.1 k f := rfl
theorem sA_22 (σ : S9) (k : Nat) (f : Nat → Int32) : (sA σ k f).2.2 = σ.2.2 := rfl
theorem sL_1 (σ : S9) (x : Int64) : (sL σ x).1 = σ.1 := rfl
theorem sL_21 (σ : S9) (x : Int64) : (sL σ x).2.1 = σ.2.1 := rfl
theorem sL_22 (σ : S9) (x : Int64) : (sL σ x).2.2 = x := rfl
theorem upd_at (f : Nat → Int32) (k : Nat) (x : Int32) (j : Nat) : upd f k x j = if j = k then x else f j := rfl
theorem vup_at {α : Type} (f : Nat → α) (k : Nat) (x : α) (j : Nat) : va_up f k x j = if j = k then x else f j := rfl
theorem upd_upd (f : Nat → Int32) (k : Nat) (x y : Int32) : upd (upd f k x) k y = upd f k y := by
  funext j; simp only [upd_at]; split <;> rfl
theorem upd_comm (f : Nat → Int32) {k j : Nat} (x y : Int32) (h : k ≠ j) : upd (upd f k x) j y = upd (upd f j y) k x := by
  funext i; simp only [upd_at]; split <;> split <;> first | rfl | (exfalso; omega)
theorem nIin {n N : Nat} (hn : n < 2 ^ 31) (hN : N < 2 ^ 31) : vp_in (nI n) N ↔ n < N := by
  rw [vp_in_iff, nI_toInt hn]; omega
theorem m1ne {n : Nat} (hn : n < 2 ^ 31) : (nI n = -1) ↔ False := by
  refine ⟨fun h => ?_, False.elim⟩
  have h1 := congrArg Int32.toInt h
  rw [nI_toInt hn] at h1
  have h2 : (-1 : Int32).toInt = -1 := by decide
  omega
theorem nI_inj {a b : Nat} (ha : a < 2 ^ 31) (hb : b < 2 ^ 31) : (nI a = nI b) ↔ a = b := nI_eq ha hb
theorem nz_in {x : Int32} {N : Nat} (h : vp_in x N) (hN : N < 2 ^ 31) : ∃ j, j < N ∧ x = nI j := vp_in_of h hN
theorem char_nar {q : Nat} (hq : q < 65536) : vp_nar .char (nI q) = nI q := by
  unfold vp_nar; rw [(pk_charN hq).1]
theorem bool_nar0 : vp_nar .boolean 0 = 0 := rfl
theorem bool_nar1 : vp_nar .boolean 1 = 1 := rfl
/-! lists out of two arrays, the top first -/
def stk (f g : Nat → Int32) : Nat → List (Int32 × Int32)
  | 0 => []
  | n + 1 => (f n, g n) :: stk f g n
theorem stk_len (f g : Nat → Int32) (n : Nat) : (stk f g n).length = n := by
  induction n with
  | zero => rfl
  | succ n ih => simp [stk, ih]
theorem stk_congr {f g f' g' : Nat → Int32} {n : Nat} (h : ∀ i, i < n → f' i = f i ∧ g' i = g i) : stk f' g' n = stk f g n := by
  induction n with
  | zero => rfl
  | succ n ih =>
    have h1 := h n (Nat.lt_succ_self n)
    simp only [stk, h1.1, h1.2, ih (fun i hi => h i (Nat.lt_succ_of_lt hi))]
theorem stk_push (f g : Nat → Int32) (n : Nat) (x y : Int32) : stk (upd f n x) (upd g n y) (n + 1) = (x, y) :: stk f g n := by
  show (upd f n x n, upd g n y n) :: stk (upd f n x) (upd g n y) n = _
  rw [pk_us, pk_us, stk_congr (f := f) (g := g) (fun i hi => ⟨pk_un (by omega), pk_un (by omega)⟩)]
/-! ===== words of a text ===== -/
def isBk (x : Int32) : Prop := x = 32 ∨ x = 10
def isDg (x : Int32) : Prop := ¬ x < 48 ∧ ¬ 57 < x
theorem isBk_dec (x : Int32) : isBk x ∨ ¬ isBk x := Classical.em _
noncomputable def nbF (c : Nat → Int32) (L : Nat) : Nat → Nat → Nat
  | 0, b => b
  | n + 1, b => @ite Nat (isBk (c b)) (Classical.propDecidable _) (nbF c L n (b + 1)) b
noncomputable def nb (c : Nat → Int32) (L b : Nat) : Nat := nbF c L (L - b) b
theorem nb_end {c : Nat → Int32} {L b : Nat} (h : L ≤ b) : nb c L b = b := by
  unfold nb; rw [Nat.sub_eq_zero_of_le h]; rfl
theorem nb_bk {c : Nat → Int32} {L b : Nat} (h : b < L) (hb : isBk (c b)) : nb c L b = nb c L (b + 1) := by
  unfold nb
  rw [show L - b = (L - (b + 1)) + 1 by omega]
  show @ite Nat (isBk (c b)) (Classical.propDecidable _) _ _ = _
  rw [if_pos hb]
theorem nb_no {c : Nat → Int32} {L b : Nat} (h : b < L) (hb : ¬ isBk (c b)) : nb c L b = b := by
  unfold nb
  rw [show L - b = (L - (b + 1)) + 1 by omega]
  show @ite Nat (isBk (c b)) (Classical.propDecidable _) _ _ = _
  rw [if_neg hb]
theorem nb_spec {c : Nat → Int32} {L : Nat} : ∀ (k b : Nat), L - b = k → b ≤ L → b ≤ nb c L b ∧ nb c L b ≤ L ∧ (nb c L b < L → ¬ isBk (c (nb c L b))) := by
  intro k
  induction k with
  | zero => intro b h hb; rw [nb_end (by omega)]; exact ⟨Nat.le_refl _, by omega, fun h => absurd h (by omega)⟩
  | succ k ih =>
    intro b h hb
    rcases isBk_dec (c b) with q | q
    · rw [nb_bk (by omega) q]
      obtain ⟨h1, h2, h3⟩ := ih (b + 1) (by omega) (by omega)
      exact ⟨by omega, h2, h3⟩
    · rw [nb_no (by omega) q]; exact ⟨Nat.le_refl _, hb, fun _ => q⟩
theorem nb_ge {c : Nat → Int32} {L b : Nat} (h : b ≤ L) : b ≤ nb c L b := (nb_spec _ b rfl h).1
theorem nb_le {c : Nat → Int32} {L b : Nat} (h : b ≤ L) : nb c L b ≤ L := (nb_spec _ b rfl h).2.1
/-- the end of a row of digits, and its number -/
noncomputable def deF (c : Nat → Int32) : Nat → Nat → Nat
  | 0, b => b
  | n + 1, b => @ite Nat (isDg (c b)) (Classical.propDecidable _) (deF c n (b + 1)) b
noncomputable def de (c : Nat → Int32) (L b : Nat) : Nat := deF c (L - b) b
noncomputable def dStep (v : Int64) (x : Int32) : Int64 := @ite Int64 (lg_cmp v 2147483647 ≤ 0) (Classical.propDecidable _) (v * 10 + (x - 48).toInt64) v
noncomputable def dvF (c : Nat → Int32) : Nat → Nat → Int64 → Int64
  | 0, _, v => v
  | n + 1, b, v => @ite Int64 (isDg (c b)) (Classical.propDecidable _) (dvF c n (b + 1) (dStep v (c b))) v
noncomputable def dv (c : Nat → Int32) (L b : Nat) (v : Int64) : Int64 := dvF c (L - b) b v
theorem de_end {c : Nat → Int32} {L b : Nat} (h : L ≤ b) : de c L b = b := by
  unfold de; rw [Nat.sub_eq_zero_of_le h]; rfl
theorem de_dg {c : Nat → Int32} {L b : Nat} (h : b < L) (hb : isDg (c b)) : de c L b = de c L (b + 1) := by
  unfold de
  rw [show L - b = (L - (b + 1)) + 1 by omega]
  show @ite Nat (isDg (c b)) (Classical.propDecidable _) _ _ = _
  rw [if_pos hb]
theorem de_no {c : Nat → Int32} {L b : Nat} (h : b < L) (hb : ¬ isDg (c b)) : de c L b = b := by
  unfold de
  rw [show L - b = (L - (b + 1)) + 1 by omega]
  show @ite Nat (isDg (c b)) (Classical.propDecidable _) _ _ = _
  rw [if_neg hb]
theorem dv_end {c : Nat → Int32} {L b : Nat} {v : Int64} (h : L ≤ b) : dv c L b v = v := by
  unfold dv; rw [Nat.sub_eq_zero_of_le h]; rfl
theorem dv_dg {c : Nat → Int32} {L b : Nat} {v : Int64} (h : b < L) (hb : isDg (c b)) : dv c L b v = dv c L (b + 1) (dStep v (c b)) := by
  unfold dv
  rw [show L - b = (L - (b + 1)) + 1 by omega]
  show @ite Int64 (isDg (c b)) (Classical.propDecidable _) _ _ = _
  rw [if_pos hb]
theorem dv_no {c : Nat → Int32} {L b : Nat} {v : Int64} (h : b < L) (hb : ¬ isDg (c b)) : dv c L b v = v := by
  unfold dv
  rw [show L - b = (L - (b + 1)) + 1 by omega]
  show @ite Int64 (isDg (c b)) (Classical.propDecidable _) _ _ = _
  rw [if_neg hb]
theorem de_spec {c : Nat → Int32} {L : Nat} : ∀ (k b : Nat), L - b = k → b ≤ L → b ≤ de c L b ∧ de c L b ≤ L := by
  intro k
  induction k with
  | zero => intro b h hb; rw [de_end (by omega)]; exact ⟨Nat.le_refl _, hb⟩
  | succ k ih =>
    intro b h hb
    rcases Classical.em (isDg (c b)) with q | q
    · rw [de_dg (by omega) q]
      obtain ⟨h1, h2⟩ := ih (b + 1) (by omega) (by omega)
      exact ⟨by omega, h2⟩
    · rw [de_no (by omega) q]; exact ⟨Nat.le_refl _, hb⟩
/-- the text: L signs, each of 1 .. 255 -/
def TextOk (c : Nat → Int32) (L : Nat) : Prop := L ≤ 3000 ∧ ∀ i, i < L → ∃ q : Nat, 0 < q ∧ q < 256 ∧ c i = nI q
/-! the word that begins at p (behind its blanks): its sign as the class has it, its end, its number -/
noncomputable def wS (c : Nat → Int32) (L p : Nat) : Int32 := @ite Int32 (p < L) _ (@ite Int32 (isDg (c p)) (Classical.propDecidable _) 48 (c p)) 0
noncomputable def wE (c : Nat → Int32) (L p : Nat) : Nat := @ite Nat (p < L ∧ isDg (c p)) (Classical.propDecidable _) (de c L (p + 1)) (p + 1)
noncomputable def wV (c : Nat → Int32) (L p : Nat) (v : Int64) : Int64 := @ite Int64 (p < L ∧ isDg (c p)) (Classical.propDecidable _) (dv c L (p + 1) (c p - 48).toInt64) v
/-- the class's words at a word -/
def cWord (σ : S9) (p s e : Int32) (v : Int64) : S9 := (upd (upd (upd σ.1 10 p) 12 s) 11 e, σ.2.1, v)
/-! ===== the class reads words ===== -/
theorem s_signAt {σ : S9} {Φ : Int32 → S9 → Prop} {L p : Nat} (hL : σ.1 2 = nI L) (ht : TextOk (σ.2.1 0) L) (hp : p ≤ 3001) (k : Φ (if p < L then σ.2.1 0 p else 0) σ) : wp_X8_signAt (nI p) σ Φ := by
  obtain ⟨h3, ht⟩ := ht
  unfold wp_X8_signAt
  refine br_f (nI_pos (by omega)) ?_
  rw [hL]
  refine pk_le L p (fun h => ?_) (fun h => ?_)
  · rw [if_neg (by omega)] at k; exact k
  · rw [if_pos (by omega)] at k
    rw [nI_clamp (by omega)]
    obtain ⟨q, h0, h1, h2⟩ := ht p h
    exact ⟨pk_in p 3000 (by omega), by rw [h2]; exact (pk_charN (by omega)).1, k⟩
theorem s_isBlank {σ : S9} {Φ : Int32 → S9 → Prop} {x : Int32} (h1 : isBk x → Φ 1 σ) (h0 : ¬ isBk x → Φ 0 σ) : wp_X8_isBlank x σ Φ :=
  br_c (fun e => h1 (Or.inl e)) (fun e => br_c (fun e2 => h1 (Or.inr e2)) (fun e2 => h0 (fun z => z.elim e e2)))
theorem s_isDigit {σ : S9} {Φ : Int32 → S9 → Prop} {x : Int32} (h1 : isDg x → Φ 1 σ) (h0 : ¬ isDg x → Φ 0 σ) : wp_X10_isDigit x σ Φ :=
  br_c (fun e => h0 (fun z => z.1 e)) (fun e => br_c (fun e2 => h0 (fun z => z.2 e2)) (fun e2 => h1 ⟨e, e2⟩))
theorem s_wordFrom {σ : S9} {Φ : Int32 → S9 → Prop} {L b : Nat} (hL : σ.1 2 = nI L) (ht : TextOk (σ.2.1 0) L) (hb : b ≤ L) (k : Φ (nI (nb (σ.2.1 0) L b)) σ) : wp_X8_wordFrom (nI b) σ Φ := by
  unfold wp_X8_wordFrom
  have h3 := ht.1
  suffices h : ∀ d b, L - b = d → b ≤ L → Φ (nI (nb (σ.2.1 0) L b)) σ → lp_X8_wordFrom_b2 Φ (d + 1) (nI b) σ from ⟨_, h _ b rfl hb k⟩
  intro d
  induction d with
  | zero =>
    intro b h1 h2 k
    rw [nb_end (by omega)] at k
    show bd_X8_wordFrom_b2 _ _ _ _
    unfold bd_X8_wordFrom_b2
    rw [hL]
    exact pk_le L b (fun _ => k) (fun h => absurd h (by omega))
  | succ d ih =>
    intro b h1 h2 k
    show bd_X8_wordFrom_b2 _ _ _ _
    unfold bd_X8_wordFrom_b2
    rw [hL]
    refine pk_le L b (fun h => absurd h (by omega)) (fun h => ?_)
    refine s_signAt hL ht (by omega) ?_
    rw [if_pos h]
    refine s_isBlank (fun q => br_f (by decide) ?_) (fun q => br_t rfl ?_)
    · rw [nb_bk h q] at k
      intro x hx
      rw [hx, nI_1]
      exact ih (b + 1) (by omega) (by omega) k
    · rw [nb_no h q] at k; exact k
