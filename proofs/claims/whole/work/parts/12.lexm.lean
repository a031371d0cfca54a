/-! ===== the reference parts its text into words ===== -/
/-- kind and value of the word at p -/
def KV (c : Nat → Int32) (L p : Nat) (k v : Int32) : Prop :=
  (isDg (c p) → (lg_cmp (dv c L (p + 1) (c p - 48).toInt64) 2147483647 ≤ 0 → k = 1 ∧ v = (dv c L (p + 1) (c p - 48).toInt64).toInt32) ∧ (¬ lg_cmp (dv c L (p + 1) (c p - 48).toInt64) 2147483647 ≤ 0 → k = 2)) ∧
  (¬ isDg (c p) → ((¬ c p < 97 ∧ ¬ 122 < c p) → k = 3 ∧ v = c p - 97) ∧ ((¬ c p < 65 ∧ ¬ 90 < c p) → k = 4 ∧ v = c p - 65) ∧ (¬ (¬ c p < 97 ∧ ¬ 122 < c p) → ¬ (¬ c p < 65 ∧ ¬ 90 < c p) → k = 100 + c p))
/-- the first w words -/
def LexW (c : Nat → Int32) (L w : Nat) (pos : Nat → Nat) (K V P : Nat → Int32) : Prop :=
  pos 0 = 0 ∧ ∀ i, i < w → pos i ≤ L ∧ nb c L (pos i) < L ∧ pos (i + 1) = wE c L (nb c L (pos i)) ∧ P i = nI (nb c L (pos i)) ∧ KV c L (nb c L (pos i)) (K i) (V i)
def LexR (c : Nat → Int32) (L w : Nat) (pos : Nat → Nat) (K V P : Nat → Int32) : Prop :=
  LexW c L w pos K V P ∧ pos w ≤ L ∧ nb c L (pos w) = L ∧ K w = 0 ∧ P w = nI L ∧ w ≤ L
def mW (τ : S9) (n : Nat) (K V P : Nat → Int32) : S9 := (upd τ.1 2 (nI n), va_up (va_up (va_up τ.2.1 1 K) 2 V) 3 P, τ.2.2)
theorem mW_1 (τ : S9) (n : Nat) (K V P : Nat → Int32) : (mW τ n K V P).1 1 = τ.1 1 := rfl
theorem mW_0 (τ : S9) (n : Nat) (K V P : Nat → Int32) : (mW τ n K V P).2.1 0 = τ.2.1 0 := rfl
theorem s_word {τ : S9} {Φ : S9 → Prop} {n : Nat} {K V P : Nat → Int32} {k v p : Int32} (hn : n < 3002) (q : Φ (mW τ (n + 1) (upd K n k) (upd V n v) (upd P n p))) : wp_X11_word k v p (mW τ n K V P) Φ := by
  unfold wp_X11_word
  have e : (mW τ n K V P).1 2 = nI n := rfl
  rw [e]
  refine ⟨pk_in n 3002 hn, nm_e ⟨pk_in n 3002 hn, nm_e ⟨pk_in n 3002 hn, nm_e (nm_e ?_)⟩⟩⟩
  have e2 : sF (sA (sA (sA (mW τ n K V P) 1 (upd ((mW τ n K V P).2.1 1) (nI n).toNatClampNeg k)) 2 (upd ((mW τ n K V P).2.1 2) (nI n).toNatClampNeg v)) 3 (upd ((mW τ n K V P).2.1 3) (nI n).toNatClampNeg p)) 2 (nI n + 1) = mW τ (n + 1) (upd K n k) (upd V n v) (upd P n p) := by
    rw [nI_clamp (by omega), nI_1]
    unfold sF sA mW
    refine Prod.ext ?_ (Prod.ext ?_ rfl)
    · exact upd_upd _ _ _ _
    · funext j
      simp only [vup_at]
      by_cases h1 : j = 3
      · subst h1; rfl
      · by_cases h2 : j = 2
        · subst h2; rfl
        · by_cases h3 : j = 1
          · subst h3; rfl
          · simp only [h1, h2, h3, if_false]
  exact e2 ▸ q
theorem s_mDigit {σ : S9} {Φ : Int32 → S9 → Prop} {x : Int32} (h1 : isDg x → Φ 1 σ) (h0 : ¬ isDg x → Φ 0 σ) : wp_X11_isDigit x σ Φ :=
  br_c (fun e => h0 (fun z => z.1 e)) (fun e => br_c (fun e2 => h0 (fun z => z.2 e2)) (fun e2 => h1 ⟨e, e2⟩))
theorem dg_cases : ∀ q, q < 256 → 48 ≤ q → q ≤ 57 → (nI q - 48).toInt64 = (nI q).toInt64 - 48 := by decide +kernel
theorem dig64 {x : Int32} {v : Int64} {q : Nat} (hq : q < 256) (hx : x = nI q) (h : isDg x) : ((10 : Int64) * v + x.toInt64) - 48 = v * 10 + (x - 48).toInt64 := by
  subst hx
  have h1 : 48 ≤ q := by
    rcases Nat.lt_or_ge q 48 with z | z
    · exact absurd (nI_lt z (by omega)) h.1
    · exact z
  have h2 : q ≤ 57 := by
    rcases Nat.lt_or_ge 57 q with z | z
    · exact absurd (nI_lt z (by omega)) h.2
    · exact z
  rw [dg_cases q hq h1 h2, Int64.sub_eq_add_neg, Int64.sub_eq_add_neg, Int64.add_assoc, Int64.mul_comm]
theorem s_mNum {τ : S9} {K7 : Int32 → S9 → Prop} {Φ : S9 → Prop} {L : Nat} {a3 : Int32} (hL : τ.1 1 = nI L) (ht : TextOk (τ.2.1 0) L) : ∀ (d e : Nat) (v : Int64), L - e = d → e ≤ L → wp_X11_part_b101 K7 Φ (nI (de (τ.2.1 0) L e)) a3 (dv (τ.2.1 0) L e v) τ → lp_X11_part_b41 K7 Φ (d + 1) (nI e) a3 v τ := by
  have h3 := ht.1
  intro d
  induction d with
  | zero =>
    intro e v h1 h2 k
    rw [de_end (by omega), dv_end (by omega)] at k
    show bd_X11_part_b41 _ _ _ _ _ _ _
    unfold bd_X11_part_b41
    rw [hL]
    exact pk_le L e (fun _ => k) (fun h => absurd h (by omega))
  | succ d ih =>
    intro e v h1 h2 k
    show bd_X11_part_b41 _ _ _ _ _ _ _
    unfold bd_X11_part_b41
    rw [hL]
    refine pk_le L e (fun h => absurd h (by omega)) (fun h => ⟨pk_in e 3000 (by omega), ?_⟩)
    rw [nI_clamp (by omega)]
    obtain ⟨q, hq0, hq1, hq2⟩ := ht.2 e h
    refine s_mDigit (fun g => br_f (by decide) ?_) (fun g => br_t rfl ?_)
    · rw [de_dg h g, dv_dg h g] at k
      unfold dStep at k
      refine br_c (fun z => ⟨pk_in e 3000 (by omega), nm_e (nm_e ?_)⟩) (fun z => nm_e ?_)
      · rw [if_pos z] at k
        rw [nI_1, dig64 hq1 hq2 g]
        exact ih (e + 1) _ (by omega) (by omega) k
      · rw [if_neg z] at k
        rw [nI_1]
        exact ih (e + 1) _ (by omega) (by omega) k
    · rw [de_no h g, dv_no h g] at k; exact k
theorem nbk_of {x : Int32} (h : ¬ x < 65) : ¬ isBk x := fun z => by
  rcases z with rfl | rfl
  · exact h (by decide)
  · exact h (by decide)
theorem LexW_snoc {c : Nat → Int32} {L w k : Nat} {pos : Nat → Nat} {K V P : Nat → Int32} {x y : Int32} (h : LexW c L w pos K V P) (hp : pos w ≤ L) (hk : nb c L (pos w) = k) (hkL : k < L) (hkv : KV c L k x y) :
    LexW c L (w + 1) (fun i => if i = w + 1 then wE c L k else pos i) (upd K w x) (upd V w y) (upd P w (nI k)) := by
  refine ⟨by show (if 0 = w + 1 then _ else _) = _; rw [if_neg (by omega)]; exact h.1, fun i hi => ?_⟩
  have e0 : (if i = w + 1 then wE c L k else pos i) = pos i := if_neg (by omega)
  simp only [e0]
  by_cases e : i = w
  · subst e
    rw [pk_us, pk_us, pk_us, hk]
    exact ⟨hp, hkL, if_pos rfl, rfl, hkv⟩
  · rw [pk_un e, pk_un e, pk_un e, if_neg (by omega)]
    exact h.2 i (by omega)
theorem s_partLoop {τ : S9} {L : Nat} (hL : τ.1 1 = nI L) (ht : TextOk (τ.2.1 0) L) : ∀ (d k : Nat), L - k ≤ d → k ≤ L → ∀ (w : Nat) (pos : Nat → Nat) (K V P : Nat → Int32), LexW (τ.2.1 0) L w pos K V P → w ≤ k → pos w ≤ k → nb (τ.2.1 0) L (pos w) = nb (τ.2.1 0) L k →
    ∃ (W : Nat) (pos' : Nat → Nat) (K' V' P' : Nat → Int32), LexR (τ.2.1 0) L W pos' K' V' P' ∧ ∀ Φ : S9 → Prop, Φ (mW τ (W + 1) K' V' P') → ∃ n, lp_X11_part_b7 Φ n (nI k) (mW τ w K V P) := by
  have h3 := ht.1
  intro d
  induction d with
  | zero =>
    intro k h1 h2 w pos K V P hW hwk hpk hnb
    have hk : k = L := by omega
    subst hk
    refine ⟨w, pos, upd K w 0, upd V w 0, upd P w (nI k), ⟨⟨hW.1, fun i hi => ?_⟩, hpk, by rw [hnb]; exact nb_end (Nat.le_refl _), pk_us, pk_us, hwk⟩, fun Φ hΦ => ⟨1, ?_⟩⟩
    · rw [pk_un (by omega), pk_un (by omega), pk_un (by omega)]; exact hW.2 i hi
    · show bd_X11_part_b7 _ _ _ _
      unfold bd_X11_part_b7
      rw [mW_1, hL]
      refine pk_le k k (fun _ => ?_) (fun h => absurd h (by omega))
      exact s_word (by omega) hΦ
  | succ d ih =>
    intro k h1 h2 w pos K V P hW hwk hpk hnb
    by_cases hkL : k = L
    · exact ih k (by omega) h2 w pos K V P hW hwk hpk hnb
    have hk : k < L := by omega
    obtain ⟨q, hq0, hq1, hq2⟩ := ht.2 k hk
    -- one sign, and what comes behind it
    have go : ∀ (w2 : Nat) (pos2 : Nat → Nat) (K2 V2 P2 : Nat → Int32) (e : Nat), k < e → e ≤ L → LexW (τ.2.1 0) L w2 pos2 K2 V2 P2 → w2 ≤ e → pos2 w2 ≤ e → nb (τ.2.1 0) L (pos2 w2) = nb (τ.2.1 0) L e →
        (∀ (K7 : Int32 → S9 → Prop) (Φ : S9 → Prop), K7 (nI e) (mW τ w2 K2 V2 P2) → bd_X11_part_b7 K7 Φ (nI k) (mW τ w K V P)) →
        ∃ (W : Nat) (pos' : Nat → Nat) (K' V' P' : Nat → Int32), LexR (τ.2.1 0) L W pos' K' V' P' ∧ ∀ Φ : S9 → Prop, Φ (mW τ (W + 1) K' V' P') → ∃ n, lp_X11_part_b7 Φ n (nI k) (mW τ w K V P) := by
      intro w2 pos2 K2 V2 P2 e g1 g2 g3 g4 g5 g6 g7
      obtain ⟨W, pos', K', V', P', r1, r2⟩ := ih e (by omega) g2 w2 pos2 K2 V2 P2 g3 g4 g5 g6
      refine ⟨W, pos', K', V', P', r1, fun Φ hΦ => ?_⟩
      obtain ⟨n, hn⟩ := r2 Φ hΦ
      exact ⟨n + 1, g7 _ _ hn⟩
    have body : ∀ (K7 : Int32 → S9 → Prop) (Φ : S9 → Prop), (wp_X11_isDigit (τ.2.1 0 k) (mW τ w K V P) (fun r5 σ2 => (r5 = 0 → (τ.2.1 0 k < 97 → wp_X11_part_b164 K7 Φ (nI (k + 1)) (τ.2.1 0 k) (nI k) σ2) ∧ (¬ τ.2.1 0 k < 97 → (122 < τ.2.1 0 k → wp_X11_part_b164 K7 Φ (nI (k + 1)) (τ.2.1 0 k) (nI k) σ2) ∧ (¬ 122 < τ.2.1 0 k → wp_X11_word 3 (τ.2.1 0 k - 97) (nI k) σ2 (fun σ3 => K7 (nI (k + 1)) σ3)))) ∧ (¬ r5 = 0 → ∃ n : Nat, lp_X11_part_b41 K7 Φ n (nI (k + 1)) (nI k) (τ.2.1 0 k - 48).toInt64 σ2))) → bd_X11_part_b7 K7 Φ (nI k) (mW τ w K V P) := by
      intro K7 Φ hh
      unfold bd_X11_part_b7
      rw [mW_1, hL]
      refine pk_le L k (fun h => absurd h (by omega)) (fun _ => ⟨pk_in k 3000 (by omega), ?_⟩)
      rw [nI_clamp (by omega), mW_0]
      refine nm_e (nm_e ?_)
      rw [nI_1]
      unfold wp_X11_isDigit at hh ⊢
      refine ⟨fun z => ?_, fun z => ⟨fun z2 => ?_, fun z2 => ?_⟩⟩
      · exact ⟨fun _ => (hh.1 z).1 rfl, fun z3 => absurd rfl z3⟩
      · exact ⟨fun _ => ((hh.2 z).1 z2).1 rfl, fun z3 => absurd rfl z3⟩
      · exact ⟨fun z3 => absurd z3 (by decide), fun z3 => nm_e (((hh.2 z).2 z2).2 z3)⟩
    by_cases hd : isDg (τ.2.1 0 k)
    · -- a number
      have hnk : nb (τ.2.1 0) L k = k := nb_no hk (fun z => by
        rcases z with z | z
        · rw [z] at hd; exact hd.1 (by decide)
        · rw [z] at hd; exact hd.1 (by decide))
      have he := de_spec (c := τ.2.1 0) (L := L) _ (k + 1) rfl (by omega)
      have hwE : wE (τ.2.1 0) L k = de (τ.2.1 0) L (k + 1) := by unfold wE; rw [if_pos ⟨hk, hd⟩]
      by_cases hg : lg_cmp (dv (τ.2.1 0) L (k + 1) (τ.2.1 0 k - 48).toInt64) 2147483647 ≤ 0
      · refine go (w + 1) _ (upd K w 1) (upd V w (dv (τ.2.1 0) L (k + 1) (τ.2.1 0 k - 48).toInt64).toInt32) (upd P w (nI k)) (wE (τ.2.1 0) L k) (by rw [hwE]; omega) (by rw [hwE]; omega) (LexW_snoc hW (by omega) (by rw [hnb, hnk]) hk ⟨fun _ => ⟨fun _ => ⟨rfl, rfl⟩, fun z => absurd hg z⟩, fun z => absurd hd z⟩) (by rw [hwE]; omega) (by show (if w + 1 = w + 1 then _ else _) ≤ _; rw [if_pos rfl]; exact Nat.le_refl _) (by show nb _ _ (if w + 1 = w + 1 then _ else _) = _; rw [if_pos rfl]) (fun K7 Φ hK => body K7 Φ ?_)
        refine s_mDigit (fun _ => br_f (by decide) ?_) (fun z => absurd hd z)
        refine ⟨_, s_mNum (τ := mW τ w K V P) hL ht _ (k + 1) _ rfl (by omega) ?_⟩
        unfold wp_X11_part_b101 wp_X11_part_b116
        rw [mW_0]
        refine br_t hg (br_t hg (s_word (by omega) ?_))
        rw [hwE] at hK; exact hK
      · refine go (w + 1) _ (upd K w 2) (upd V w 0) (upd P w (nI k)) (wE (τ.2.1 0) L k) (by rw [hwE]; omega) (by rw [hwE]; omega) (LexW_snoc hW (by omega) (by rw [hnb, hnk]) hk ⟨fun _ => ⟨fun z => absurd z hg, fun _ => rfl⟩, fun z => absurd hd z⟩) (by rw [hwE]; omega) (by show (if w + 1 = w + 1 then _ else _) ≤ _; rw [if_pos rfl]; exact Nat.le_refl _) (by show nb _ _ (if w + 1 = w + 1 then _ else _) = _; rw [if_pos rfl]) (fun K7 Φ hK => body K7 Φ ?_)
        refine s_mDigit (fun _ => br_f (by decide) ?_) (fun z => absurd hd z)
        refine ⟨_, s_mNum (τ := mW τ w K V P) hL ht _ (k + 1) _ rfl (by omega) ?_⟩
        unfold wp_X11_part_b101 wp_X11_part_b116
        rw [mW_0]
        refine br_f hg (br_f hg (s_word (by omega) ?_))
        rw [hwE] at hK; exact hK
    · have hwE : wE (τ.2.1 0) L k = k + 1 := by unfold wE; rw [if_neg (fun z => hd z.2)]
      by_cases hbk : isBk (τ.2.1 0 k)
      · -- a blank
        refine go w pos K V P (k + 1) (by omega) (by omega) hW (by omega) (by omega) (by rw [hnb, nb_bk hk hbk]) (fun K7 Φ hK => body K7 Φ ?_)
        refine s_mDigit (fun z => absurd z hd) (fun _ => br_t rfl ?_)
        rcases hbk with e | e
        · rw [e]; unfold wp_X11_part_b164 wp_X11_part_b189
          exact br_t (by decide) (br_t (by decide) (br_t rfl hK))
        · rw [e]; unfold wp_X11_part_b164 wp_X11_part_b189
          exact br_t (by decide) (br_t (by decide) (br_f (by decide) (br_t rfl hK)))
      · have hnk : nb (τ.2.1 0) L k = k := nb_no hk hbk
        have wd : ∀ x y : Int32, KV (τ.2.1 0) L k x y → (∀ (K7 : Int32 → S9 → Prop) (Φ : S9 → Prop), wp_X11_word x y (nI k) (mW τ w K V P) (fun σ3 => K7 (nI (k + 1)) σ3) → (τ.2.1 0 k < 97 → wp_X11_part_b164 K7 Φ (nI (k + 1)) (τ.2.1 0 k) (nI k) (mW τ w K V P)) ∧ (¬ τ.2.1 0 k < 97 → (122 < τ.2.1 0 k → wp_X11_part_b164 K7 Φ (nI (k + 1)) (τ.2.1 0 k) (nI k) (mW τ w K V P)) ∧ (¬ 122 < τ.2.1 0 k → wp_X11_word 3 (τ.2.1 0 k - 97) (nI k) (mW τ w K V P) (fun σ3 => K7 (nI (k + 1)) σ3)))) →
            ∃ (W : Nat) (pos' : Nat → Nat) (K' V' P' : Nat → Int32), LexR (τ.2.1 0) L W pos' K' V' P' ∧ ∀ Φ : S9 → Prop, Φ (mW τ (W + 1) K' V' P') → ∃ n, lp_X11_part_b7 Φ n (nI k) (mW τ w K V P) := by
          intro x y hkv hb
          refine go (w + 1) _ (upd K w x) (upd V w y) (upd P w (nI k)) (wE (τ.2.1 0) L k) (by rw [hwE]; omega) (by rw [hwE]; omega) (LexW_snoc hW (by omega) (by rw [hnb, hnk]) hk hkv) (by rw [hwE]; omega) (by show (if w + 1 = w + 1 then _ else _) ≤ _; rw [if_pos rfl]; exact Nat.le_refl _) (by show nb _ _ (if w + 1 = w + 1 then _ else _) = _; rw [if_pos rfl]) (fun K7 Φ hK => body K7 Φ ?_)
          refine s_mDigit (fun z => absurd z hd) (fun _ => br_t rfl ?_)
          refine hb K7 Φ (s_word (by omega) ?_)
          rw [hwE] at hK; exact hK
        by_cases hn : ¬ τ.2.1 0 k < 97 ∧ ¬ 122 < τ.2.1 0 k
        · exact wd 3 (τ.2.1 0 k - 97) ⟨fun z => absurd z hd, fun _ => ⟨fun _ => ⟨rfl, rfl⟩, fun z => absurd (show (90 : Int32) < τ.2.1 0 k by
            rw [hq2] at hn ⊢
            exact nI_lt (by
              rcases Nat.lt_or_ge 90 q with z | z
              · exact z
              · exact absurd (nI_lt (show q < 97 by omega) (by omega)) hn.1) (by omega)) z.2, fun z => absurd hn z⟩⟩ (fun K7 Φ h => br_f hn.1 (br_f hn.2 h))
        · by_cases hp : ¬ τ.2.1 0 k < 65 ∧ ¬ 90 < τ.2.1 0 k
          · refine wd 4 (τ.2.1 0 k - 65) ⟨fun z => absurd z hd, fun _ => ⟨fun z => absurd z hn, fun _ => ⟨rfl, rfl⟩, fun _ z => absurd hp z⟩⟩ (fun K7 Φ h => ?_)
            have hb : wp_X11_part_b164 K7 Φ (nI (k + 1)) (τ.2.1 0 k) (nI k) (mW τ w K V P) := by
              unfold wp_X11_part_b164
              exact br_f hp.1 (br_f hp.2 h)
            exact br_c (fun _ => hb) (fun z => br_c (fun _ => hb) (fun z2 => absurd ⟨z, z2⟩ hn))
          · refine wd (100 + τ.2.1 0 k) 0 ⟨fun z => absurd z hd, fun _ => ⟨fun z => absurd z hn, fun z => absurd z hp, fun _ _ => rfl⟩⟩ (fun K7 Φ h => ?_)
            have hb9 : wp_X11_part_b189 K7 Φ (nI (k + 1)) (τ.2.1 0 k) (nI k) (mW τ w K V P) := by
              unfold wp_X11_part_b189
              exact br_f (fun z => hbk (Or.inl z)) (br_f (fun z => hbk (Or.inr z)) h)
            have hb : wp_X11_part_b164 K7 Φ (nI (k + 1)) (τ.2.1 0 k) (nI k) (mW τ w K V P) := by
              unfold wp_X11_part_b164
              exact br_c (fun _ => hb9) (fun z => br_c (fun _ => hb9) (fun z2 => absurd ⟨z, z2⟩ hp))
            exact br_c (fun _ => hb) (fun z => br_c (fun _ => hb) (fun z2 => absurd ⟨z, z2⟩ hn))
theorem s_part {τ : S9} {L : Nat} (hL : τ.1 1 = nI L) (ht : TextOk (τ.2.1 0) L) :
    ∃ (W : Nat) (pos : Nat → Nat) (K V P : Nat → Int32), LexR (τ.2.1 0) L W pos K V P ∧ ∀ Φ : S9 → Prop, Φ (mW τ (W + 1) K V P) → wp_X11_part τ Φ := by
  obtain ⟨W, pos, K, V, P, h1, h2⟩ := s_partLoop hL ht L 0 (by omega) (by omega) 0 (fun _ => 0) (τ.2.1 1) (τ.2.1 2) (τ.2.1 3) ⟨rfl, fun i hi => absurd hi (by omega)⟩ (Nat.le_refl _) (Nat.le_refl _) rfl
  refine ⟨W, pos, K, V, P, h1, fun Φ hΦ => ?_⟩
  unfold wp_X11_part
  refine nm_e (nm_e ?_)
  obtain ⟨n, hn⟩ := h2 Φ hΦ
  refine ⟨n, ?_⟩
  have e : mW τ 0 (τ.2.1 1) (τ.2.1 2) (τ.2.1 3) = sF τ 2 0 := by
    unfold mW sF
    refine Prod.ext rfl (Prod.ext ?_ rfl)
    funext j
    simp only [vup_at]
    by_cases h1 : j = 3
    · subst h1; rfl
    · by_cases h2 : j = 2
      · subst h2; rfl
      · by_cases h3 : j = 1
        · subst h3; rfl
        · simp only [h1, h2, h3, if_false]
  exact e ▸ hn
