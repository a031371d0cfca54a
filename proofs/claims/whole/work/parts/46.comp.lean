/-! ===== word by word, both sides ===== -/
theorem wk_of {t : Nat → Int32} {L p : Nat} {kd v : Int32} {u : Int64} (ht : TextOk t L) (hp : p < L) (h : KV t L p kd v) : WK (wS t L p) kd v (wV t L p u) := by
  obtain ⟨q, q1, q2, q3⟩ := ht.2 p hp
  by_cases hd : isDg (t p)
  · have e1 : wS t L p = 48 := by unfold wS; rw [if_pos hp, if_pos hd]
    have e2 : wV t L p u = dv t L (p + 1) (t p - 48).toInt64 := by unfold wV; rw [if_pos ⟨hp, hd⟩]
    rw [e1, e2]
    obtain ⟨h1, h2⟩ := h.1 hd
    by_cases e : lg_cmp (dv t L (p + 1) (t p - 48).toInt64) 2147483647 ≤ 0
    · exact Or.inr (Or.inl ⟨rfl, (h1 e).1, (h1 e).2, e⟩)
    · exact Or.inr (Or.inr (Or.inl ⟨rfl, h2 e, e⟩))
  · have e1 : wS t L p = t p := by unfold wS; rw [if_pos hp, if_neg hd]
    rw [e1, q3]
    rw [q3] at hd
    obtain ⟨-, h2⟩ := h
    have h3 := h2 (by rw [q3]; exact hd)
    rw [q3] at h3
    obtain ⟨a1, a2, a3⟩ := h3
    have lt : ∀ a b : Nat, a < 256 → b < 256 → (nI a < nI b ↔ a < b) := fun a b ha hb => nI_ltI (by omega) (by omega)
    unfold isDg at hd
    rw [show (48 : Int32) = nI 48 from rfl, show (57 : Int32) = nI 57 from rfl, lt _ _ q2 (by omega), lt _ _ (by omega) q2] at hd
    have f1 : nI q < 97 ↔ q < 97 := lt q 97 q2 (by omega)
    have f2 : 122 < nI q ↔ 122 < q := lt 122 q (by omega) q2
    have f3 : nI q < 65 ↔ q < 65 := lt q 65 q2 (by omega)
    have f4 : 90 < nI q ↔ 90 < q := lt 90 q (by omega) q2
    rw [f1, f2] at a1 a3
    rw [f3, f4] at a2 a3
    by_cases n1 : ¬ q < 97 ∧ ¬ 122 < q
    · obtain ⟨k1, k2⟩ := a1 n1
      refine Or.inr (Or.inr (Or.inr (Or.inl ⟨q - 97, by omega, by rw [show 97 + (q - 97) = q by omega], k1, ?_⟩)))
      rw [k2, show (97 : Int32) = nI 97 from rfl, pk_sub (by omega)]
    · by_cases n2 : ¬ q < 65 ∧ ¬ 90 < q
      · obtain ⟨k1, k2⟩ := a2 n2
        refine Or.inr (Or.inr (Or.inr (Or.inr (Or.inl ⟨q - 65, by omega, by rw [show 65 + (q - 65) = q by omega], k1, ?_⟩))))
        rw [k2, show (65 : Int32) = nI 65 from rfl, pk_sub (by omega)]
      · refine Or.inr (Or.inr (Or.inr (Or.inr (Or.inr ⟨q, ⟨q1, q2, by omega, by omega, by omega⟩, rfl, ?_⟩))))
        rw [a3 n1 n2, show (100 : Int32) = nI 100 from rfl, nI_add]
theorem Cs_word {b σ : S9} {w : TL} (h : Cs b w σ) (p s e : Int32) (v : Int64) : Cs (cWord b p s e v) w (cWord σ p s e v) := by
  obtain ⟨f, g, h1, rfl⟩ := h
  refine ⟨f, g, h1, ?_⟩
  unfold cWord
  refine Prod.ext ?_ rfl
  show upd (upd (upd (upd b.1 13 _) 10 p) 12 s) 11 e = upd (upd (upd (upd b.1 10 p) 12 s) 11 e) 13 _
  rw [upd_comm b.1 _ _ (show (13 : Nat) ≠ 10 by decide), upd_comm _ _ _ (show (13 : Nat) ≠ 12 by decide), upd_comm _ _ _ (show (13 : Nat) ≠ 11 by decide)]
theorem QQ_word {b c : S9} {w th : TL} {j wp : Nat} (h : QQ b c w th j wp) (p s e : Int32) (v : Int64) : QQ (cWord b p s e v) c w th j wp := h
/-- what stays over a whole compile -/
def WX (b b' : S9) : Prop := b'.1 2 = b.1 2 ∧ b'.1 3 = b.1 3 ∧ b'.2.1 0 = b.2.1 0 ∧ b'.2.1 1 = b.2.1 1
def WY (c c' : S9) : Prop := (c'.1 0 = c.1 0 ∧ c'.1 1 = c.1 1 ∧ c'.1 16 = c.1 16 ∧ c'.1 22 = c.1 22) ∧ c'.2.1 0 = c.2.1 0 ∧ c'.2.1 24 = c.2.1 24
theorem WX.trans {a b c : S9} (h1 : WX a b) (h2 : WX b c) : WX a c := ⟨h2.1.trans h1.1, h2.2.1.trans h1.2.1, h2.2.2.1.trans h1.2.2.1, h2.2.2.2.trans h1.2.2.2⟩
theorem WY.trans {a b c : S9} (h1 : WY a b) (h2 : WY b c) : WY a c := ⟨⟨h2.1.1.trans h1.1.1, h2.1.2.1.trans h1.1.2.1, h2.1.2.2.1.trans h1.1.2.2.1, h2.1.2.2.2.trans h1.1.2.2.2⟩, h2.2.1.trans h1.2.1, h2.2.2.trans h1.2.2⟩
theorem WFb.wx {b b' : S9} (h : WFb b b') : WX b b' := ⟨h.1 2 (by omega), h.1 3 (by omega), h.2.1, h.2.2.1⟩
theorem WFc.wy {c c' : S9} (h : WFc c c') : WY c c' := ⟨⟨h.1 0 (by omega), h.1 1 (by omega), h.1 16 (by omega), h.1 22 (by omega)⟩, h.2.1, h.2.2.2.2.2⟩
theorem FF.wy {c c' : S9} (h : FF c c') : WY c c' := ⟨⟨h.1.1, h.1.2.1, h.1.2.2.2.1, h.1.2.2.2.2⟩, h.2.1, h.2.2⟩
/-- at word j -/
def LPW (t : Nat → Int32) (L W : Nat) (pos : Nat → Nat) (K V P : Nat → Int32) (b c : S9) (w th : TL) (j : Nat) : Prop := (QQ b c w th j (nb t L (pos j))) ∧ (b.1 2 = nI L) ∧ (b.2.1 0 = t) ∧ (b.1 10 = nI (nb t L (pos j))) ∧ (b.1 12 = wS t L (nb t L (pos j))) ∧ (b.1 11 = nI (wE t L (nb t L (pos j)))) ∧ (∃ u, b.2.2 = wV t L (nb t L (pos j)) u) ∧ (c.1 3 = nI j) ∧ (c.1 4 = -1) ∧ (c.2.1 1 = K) ∧ (c.2.1 2 = V) ∧ (c.2.1 3 = P)
theorem LPW.qq {t : Nat → Int32} {L W : Nat} {pos : Nat → Nat} {K V P : Nat → Int32} {b c : S9} {w th : TL} {j : Nat} (h : LPW t L W pos K V P b c w th j) : QQ b c w th j (nb t L (pos j)) := h.1
theorem LPW.b2 {t : Nat → Int32} {L W : Nat} {pos : Nat → Nat} {K V P : Nat → Int32} {b c : S9} {w th : TL} {j : Nat} (h : LPW t L W pos K V P b c w th j) : b.1 2 = nI L := h.2.1
theorem LPW.ba {t : Nat → Int32} {L W : Nat} {pos : Nat → Nat} {K V P : Nat → Int32} {b c : S9} {w th : TL} {j : Nat} (h : LPW t L W pos K V P b c w th j) : b.2.1 0 = t := h.2.2.1
theorem LPW.b10 {t : Nat → Int32} {L W : Nat} {pos : Nat → Nat} {K V P : Nat → Int32} {b c : S9} {w th : TL} {j : Nat} (h : LPW t L W pos K V P b c w th j) : b.1 10 = nI (nb t L (pos j)) := h.2.2.2.1
theorem LPW.b12 {t : Nat → Int32} {L W : Nat} {pos : Nat → Nat} {K V P : Nat → Int32} {b c : S9} {w th : TL} {j : Nat} (h : LPW t L W pos K V P b c w th j) : b.1 12 = wS t L (nb t L (pos j)) := h.2.2.2.2.1
theorem LPW.b11 {t : Nat → Int32} {L W : Nat} {pos : Nat → Nat} {K V P : Nat → Int32} {b c : S9} {w th : TL} {j : Nat} (h : LPW t L W pos K V P b c w th j) : b.1 11 = nI (wE t L (nb t L (pos j))) := h.2.2.2.2.2.1
theorem LPW.nm {t : Nat → Int32} {L W : Nat} {pos : Nat → Nat} {K V P : Nat → Int32} {b c : S9} {w th : TL} {j : Nat} (h : LPW t L W pos K V P b c w th j) : ∃ u, b.2.2 = wV t L (nb t L (pos j)) u := h.2.2.2.2.2.2.1
theorem LPW.c3 {t : Nat → Int32} {L W : Nat} {pos : Nat → Nat} {K V P : Nat → Int32} {b c : S9} {w th : TL} {j : Nat} (h : LPW t L W pos K V P b c w th j) : c.1 3 = nI j := h.2.2.2.2.2.2.2.1
theorem LPW.c4 {t : Nat → Int32} {L W : Nat} {pos : Nat → Nat} {K V P : Nat → Int32} {b c : S9} {w th : TL} {j : Nat} (h : LPW t L W pos K V P b c w th j) : c.1 4 = -1 := h.2.2.2.2.2.2.2.2.1
theorem LPW.ck {t : Nat → Int32} {L W : Nat} {pos : Nat → Nat} {K V P : Nat → Int32} {b c : S9} {w th : TL} {j : Nat} (h : LPW t L W pos K V P b c w th j) : c.2.1 1 = K := h.2.2.2.2.2.2.2.2.2.1
theorem LPW.cv {t : Nat → Int32} {L W : Nat} {pos : Nat → Nat} {K V P : Nat → Int32} {b c : S9} {w th : TL} {j : Nat} (h : LPW t L W pos K V P b c w th j) : c.2.1 2 = V := h.2.2.2.2.2.2.2.2.2.2.1
theorem LPW.cp {t : Nat → Int32} {L W : Nat} {pos : Nat → Nat} {K V P : Nat → Int32} {b c : S9} {w th : TL} {j : Nat} (h : LPW t L W pos K V P b c w th j) : c.2.1 3 = P := h.2.2.2.2.2.2.2.2.2.2.2
def OUTF (t : Nat → Int32) (b c : S9) (w th : TL) (n j : Nat) : Prop :=
  ∃ p : Nat, p ≤ 3000 ∧ (∀ Φ : Int32 → S9 → Prop, (∀ (b' : S9) (w' : TL) (σ' : S9), WX b b' → Cs b' w' σ' → Φ (nI p) σ') → ∀ σ, Cs b w σ → lp_X0_firstFault_b13 Φ n (nI j) σ) ∧
    ∃ (c1 : S9) (l1 : TL) (m : Nat), WY c c1 ∧ l1.length ≤ 4000 ∧ c1.1 11 = nI m ∧ m < 1200 ∧ ∀ Ψ : Int32 → S9 → Prop, MG (sF c1 4 (nI p)) l1 Ψ → MG c th Ψ
def OUTP (t : Nat → Int32) (b c : S9) (w th : TL) (n j : Nat) : Prop :=
  ∃ (b' c' : S9) (w' : TL) (g : GH) (S m np pl pr pj wp : Nat), R0 b' c' g S m 0 np pl pr pj wp ∧ pl ≤ 3000 ∧ WX b b' ∧ WY c c' ∧ c'.1 4 = -1 ∧ (∀ Φ : Int32 → S9 → Prop, (∀ σ', Cs b' w' σ' → wp_X6_linkBlockEnds σ' (fun σ3 => Φ (-1) σ3)) → ∀ σ, Cs b w σ → lp_X0_firstFault_b13 Φ n (nI j) σ) ∧ ∀ Ψ : Int32 → S9 → Prop, MG c' [] Ψ → MG c th Ψ
theorem c_fault {b σ : S9} {w : TL} {x : Int32} {p : Nat} {Φ : Int32 → S9 → Prop} (h : Cs b w σ) (h12 : b.1 12 = x) (hx : ¬ x = 0) (h10 : b.1 10 = nI p) (k : Φ (nI p) σ) : wp_X0_firstFault_b57 Φ σ := by
  unfold wp_X0_firstFault_b57 wp_X9_atEnd
  rw [Cs_1 h (show (12 : Nat) ≠ 13 by decide), h12]
  refine br_f hx (br_t rfl ?_)
  rw [Cs_1 h (show (10 : Nat) ≠ 13 by decide), h10]; exact k
theorem lp_all {t : Nat → Int32} {L W : Nat} {pos : Nat → Nat} {K V P : Nat → Int32} (ht : TextOk t L) (hlex : LexR t L W pos K V P) : ∀ (d j : Nat) (b c : S9) (w th : TL), j + d = W → LPW t L W pos K V P b c w th j → OUTF t b c w th (d + 1) j ∨ OUTP t b c w th (d + 1) j := by
  obtain ⟨⟨hl0, hl⟩, hW1, hW2, hW3, hW4, hW5⟩ := hlex
  have hL := ht.1
  intro d
  induction d with
  | zero =>
    intro j b c w th hj h
    have ej : j = W := by omega
    subst ej
    have hp : nb t L (pos j) = L := hW2
    have hqq := h.qq
    rw [hp] at hqq
    have hw : wd c j 0 := ⟨h.c3, by omega, by rw [h.ck]; exact hW3, h.c4⟩
    have h12 : b.1 12 = 0 := by rw [h.b12, hp]; unfold wS; rw [if_neg (by omega)]
    have h10 : b.1 10 = nI L := by rw [h.b10, hp]
    -- at the end of the text
    have c57 : ∀ (Φ : Int32 → S9 → Prop) (σ : S9), Cs b w σ → wp_X0_firstFault_b57 Φ σ → lp_X0_firstFault_b13 Φ (0 + 1) (nI j) σ := by
      intro Φ σ hσ q
      show bd_X0_firstFault_b13 _ Φ (nI j) σ
      unfold bd_X0_firstFault_b13
      refine br_c (fun _ => q) (fun _ => ?_)
      unfold wp_X9_atEnd
      rw [Cs_1 hσ (show (12 : Nat) ≠ 13 by decide), h12]
      exact br_t rfl (br_f (by decide) q)
    have c57b : ∀ (Φ : Int32 → S9 → Prop) (σ : S9), Cs b w σ → wp_X0_mayEnd σ (fun r3 σ2 => (r3 = 0 → Φ (σ2.1 10) σ2) ∧ (¬ r3 = 0 → wp_X6_linkBlockEnds σ2 (fun σ3 => Φ (-1 : Int32) σ3))) → wp_X0_firstFault_b57 Φ σ := by
      intro Φ σ hσ q
      unfold wp_X0_firstFault_b57 wp_X9_atEnd
      rw [Cs_1 hσ (show (12 : Nat) ≠ 13 by decide), h12]
      exact br_t rfl (br_f (by decide) q)
    rcases q_end hqq hw (by omega) (by rw [h.cp]; exact hW4) (by omega) with ⟨a1, a2, c', g, S, m, np, pl, pr, pj, a3, apl, a4, a5⟩ | ⟨a1, a2⟩
    · refine Or.inr ⟨b, c', w, g, S, m, np, pl, pr, pj, L, a3, apl, (WFb.rf b).wx, a4.wy, a3.sm.num.2.2.2.2.2.2.2.2.2.2, fun Φ k σ hσ => c57 Φ σ hσ (c57b Φ σ hσ ?_), a5⟩
      unfold wp_X0_mayEnd
      rw [Cs_1 hσ (show (6 : Nat) ≠ 13 by decide), Cs_1 hσ (show (7 : Nat) ≠ 13 by decide), a1]
      refine br_t rfl ?_
      have go := k σ hσ
      rcases a2 with e | e
      · rw [e]; exact br_t rfl (br_f (by decide) go)
      · rw [e]; exact br_f (by decide) (br_t rfl (br_f (by decide) go))
    · refine Or.inl ⟨L, hL, fun Φ k σ hσ => c57 Φ σ hσ (c57b Φ σ hσ ?_), ?_⟩
      · have go : Φ (σ.1 10) σ := by
          rw [Cs_1 hσ (show (10 : Nat) ≠ 13 by decide), h10]
          exact k b w σ (WFb.rf b).wx hσ
        unfold wp_X0_mayEnd
        rw [Cs_1 hσ (show (6 : Nat) ≠ 13 by decide), Cs_1 hσ (show (7 : Nat) ≠ 13 by decide)]
        refine br_c (fun e6 => br_c (fun e7 => absurd ⟨e6, Or.inl e7⟩ a1) (fun e7 => br_c (fun e8 => absurd ⟨e6, Or.inr e8⟩ a1) (fun _ => br_t rfl go))) (fun _ => br_t rfl go)
      · obtain ⟨c1, l1, b1, b2, b3⟩ := a2
        obtain ⟨m, m1, m2⟩ := QQ_m hqq
        refine ⟨c1, l1, m, b1.wy, b2, b1.1.2.2.1.trans m2, m1, fun Ψ k => b3 Ψ ?_⟩
        rw [h.cp, hW4]; exact k
  | succ d ih =>
    intro j b c w th hj h
    obtain ⟨l1, l2, l3, l4, l5⟩ := hl j (by omega)
    obtain ⟨p, hp⟩ : ∃ p, p = nb t L (pos j) := ⟨_, rfl⟩
    rw [← hp] at l2 l3 l4 l5
    obtain ⟨u, hu⟩ := h.nm
    have hwk : WK (wS t L p) (K j) (V j) b.2.2 := by rw [hu, ← hp]; exact wk_of ht l2 l5
    have hx0 : ¬ wS t L p = 0 := by
      obtain ⟨q, q1, q2, q3⟩ := ht.2 p l2
      unfold wS
      rw [if_pos l2]
      split
      · decide
      · rw [q3, show (0 : Int32) = nI 0 from rfl, nI_inj (by omega) (by omega)]; omega
    have hwd : wd c j (K j) := ⟨h.c3, by omega, by rw [h.ck], h.c4⟩
    have hpn : pos (j + 1) ≤ L := by
      by_cases e : j + 1 < W
      · exact (hl (j + 1) e).1
      · have : j + 1 = W := by omega
        rw [this]; exact hW1
    have hpos : p + 1 ≤ pos (j + 1) := by
      rw [l3]
      unfold wE
      split
      · exact (de_spec _ (p + 1) rfl (by omega)).1
      · exact Nat.le_refl _
    have hpp : p + 1 ≤ nb t L (pos (j + 1)) := Nat.le_trans hpos (nb_ge hpn)
    have hW : WH b c j p (wS t L p) (K j) (V j) := by
      refine ⟨hwk, hwd, by rw [h.cv], by rw [h.cp, l4], by rw [h.b10, hp], by omega, by omega, fun w' σ F _ hσ k1 k0 => ?_⟩
      have e11 : σ.1 11 = nI (pos (j + 1)) := by rw [Cs_1 hσ (show (11 : Nat) ≠ 13 by decide), h.b11, ← hp, l3]
      have e2 : σ.1 2 = nI L := by rw [Cs_1 hσ (show (2 : Nat) ≠ 13 by decide), h.b2]
      have ea : σ.2.1 0 = t := by rw [Cs_2 hσ (show (0 : Nat) ≠ 17 by decide) (by decide), h.ba]
      rw [h.ck] at k1 k0
      have iff : wS t L (nb t L (pos (j + 1))) = 123 ↔ K (j + 1) = 223 := by
        by_cases e : j + 1 < W
        · obtain ⟨m1, m2, m3, m4, m5⟩ := hl (j + 1) e
          exact (wk_sg (wk_of (u := 0) ht m2 m5) 123 ⟨by omega, by omega, by omega, by omega, by omega⟩).symm
        · have e' : j + 1 = W := by omega
          rw [e', hW2, hW3]
          unfold wS
          rw [if_neg (by omega)]
          decide
      refine s_braceFollows e2 (by rw [ea]; exact ht) hpn e11 (fun z => k1 (iff.mp (by rw [ea] at z; exact z))) (fun z => k0 (fun y => z (by rw [ea]; exact iff.mpr y)))
    have hqq := h.qq
    rw [← hp] at hqq
    have h12 : b.1 12 = wS t L p := by rw [h.b12, hp]
    have step : ∀ (Φ : Int32 → S9 → Prop) (σ : S9), Cs b w σ → wp_X0_takes (wS t L p) σ (fun r4 σ2 => (r4 = 0 → wp_X0_firstFault_b57 Φ σ2) ∧ (¬ r4 = 0 → wp_X9_toNext σ2 (fun σ3 => ∀ x6 : Int32, x6 = nI j + 1 → lp_X0_firstFault_b13 Φ (d + 1) x6 σ3))) → lp_X0_firstFault_b13 Φ (d + 1 + 1) (nI j) σ := by
      intro Φ σ hσ q
      show bd_X0_firstFault_b13 (lp_X0_firstFault_b13 Φ (d + 1)) Φ (nI j) σ
      unfold bd_X0_firstFault_b13
      refine pk_le 3000 j (fun z => absurd z (by omega)) (fun _ => ?_)
      unfold wp_X9_atEnd
      rw [Cs_1 hσ (show (12 : Nat) ≠ 13 by decide), h12]
      refine br_f hx0 (br_t rfl ?_)
      rw [Cs_1 hσ (show (12 : Nat) ≠ 13 by decide), h12]; exact q
    rcases w_word hqq hW hx0 with ⟨b', c', w', th', r1, r2, r3, r4, r5, r6, r7⟩ | ⟨b', w', r1, r2, r3⟩
    · -- the word is taken
      obtain ⟨b1, hb1⟩ : ∃ b1, b1 = cWord b' (nI (nb t L (pos (j + 1)))) (wS t L (nb t L (pos (j + 1)))) (nI (wE t L (nb t L (pos (j + 1))))) (wV t L (nb t L (pos (j + 1))) b'.2.2) := ⟨_, rfl⟩
      have hLP : LPW t L W pos K V P b1 c' w' th' (j + 1) := by
        rw [hb1]
        exact ⟨QQ_wp (QQ_word r1 _ _ _ _) hpp, (r2.1 2 (by omega)).trans h.b2, r2.2.1.trans h.ba, rfl, rfl, rfl, ⟨_, rfl⟩, r4, r5, by rw [r3.2.2.1]; exact h.ck, by rw [r3.2.2.2.1]; exact h.cv, by rw [r3.2.2.2.2.1]; exact h.cp⟩
      have hwx : WX b b1 := by
        rw [hb1]
        exact ⟨r2.1 2 (by omega), r2.1 3 (by omega), r2.2.1, r2.2.2.1⟩
      have cls : ∀ (Φ : Int32 → S9 → Prop), (∀ σ', Cs b1 w' σ' → lp_X0_firstFault_b13 Φ (d + 1) (nI (j + 1)) σ') → ∀ σ, Cs b w σ → lp_X0_firstFault_b13 Φ (d + 1 + 1) (nI j) σ := by
        intro Φ k σ hσ
        refine step Φ σ hσ (r6 σ _ hσ (fun σ' h' => br_f (by decide) ?_))
        have e11 : σ'.1 11 = nI (pos (j + 1)) := by rw [Cs_1 h' (show (11 : Nat) ≠ 13 by decide), r2.1 11 (by omega), h.b11, ← hp, l3]
        have e2 : σ'.1 2 = nI L := by rw [Cs_1 h' (show (2 : Nat) ≠ 13 by decide), r2.1 2 (by omega), h.b2]
        have ea : σ'.2.1 0 = t := by rw [Cs_2 h' (show (0 : Nat) ≠ 17 by decide) (by decide), r2.2.1, h.ba]
        refine s_toNext e2 (by rw [ea]; exact ht) hpn e11 (fun x6 e6 => ?_)
        rw [e6, nI_1, ea, Cs_22 h']
        refine k _ ?_
        rw [hb1]; exact Cs_word h' _ _ _ _
      rcases ih (j + 1) b1 c' w' th' (by omega) hLP with ⟨q, q1, q2, c1, l1, m, q3, q4, q5, q6, q7⟩ | ⟨b2, c2, w2, g, S, m, np, pl, pr, pj, wp, q1, qpl, q2, q3, q4, q5, q6⟩
      · exact Or.inl ⟨q, q1, fun Φ k σ hσ => cls Φ (q2 Φ (fun b3 w3 σ3 z1 z2 => k b3 w3 σ3 (hwx.trans z1) z2)) σ hσ, c1, l1, m, r3.wy.trans q3, q4, q5, q6, fun Ψ k => r7 Ψ (q7 Ψ k)⟩
      · exact Or.inr ⟨b2, c2, w2, g, S, m, np, pl, pr, pj, wp, q1, qpl, hwx.trans q2, r3.wy.trans q3, q4, fun Φ k σ hσ => cls Φ (q5 Φ k) σ hσ, fun Ψ k => r7 Ψ (q6 Ψ k)⟩
    · -- it is not
      refine Or.inl ⟨p, by omega, fun Φ k σ hσ => step Φ σ hσ (r2 σ _ hσ (fun σ' h' => br_t rfl ?_)), ?_⟩
      · exact c_fault h' ((r1.1 12 (by omega)).trans h12) hx0 ((r1.1 10 (by omega)).trans (by rw [h.b10, hp])) (k b' w' σ' r1.wx h')
      · obtain ⟨c1, l1, b1, b2, b3⟩ := r3
        obtain ⟨m, m1, m2⟩ := QQ_m hqq
        refine ⟨c1, l1, m, b1.wy, b2, b1.1.2.2.1.trans m2, m1, fun Ψ k => b3 Ψ ?_⟩
        rw [h.cp, l4]; exact k
