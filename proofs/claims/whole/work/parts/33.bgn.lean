/-! ===== a step begins, on both sides ===== -/
theorem ctx_eq {B B' : AR} {g g' : GH} {pn e : Nat} (h14 : B' 14 e = B 14 e) (h15 : B' 15 e = B 15 e) (ho : B 14 e = -1 ∨ ∃ o : Nat, o < 300 ∧ B 14 e = nI o ∧ B' 2 o = B 2 o ∧ g' 0 o = g 0 o ∧ (¬ B 15 e = 0 → g' 3 o = g 3 o)) : ctxT B' g' pn e = ctxT B g pn e := by
  unfold ctxT
  rw [h14, h15]
  rcases ho with q | ⟨o, q0, q1, q2, q3, q4⟩
  · rw [if_pos q, if_pos q]
  · have hn : ¬ B 14 e = -1 := by rw [q1]; exact nIm1 (by omega)
    rw [if_neg hn, if_neg hn, q1, nI_clamp (by omega), q2, q3]
    by_cases e5 : B 15 e = 0
    · rw [if_pos e5, if_pos e5]
    · rw [if_neg e5, if_neg e5, q4 e5]
theorem BS_eq {b c : S9} {g g' : GH} {S m d np T wp pj pr D : Nat} {xo xu : Int32} {B' : AR} (h : SM b c g S m d np T xo xu wp) (hS : S ≤ 300) (hD : D ≤ d) (h14 : ∀ e, 1 ≤ e → e ≤ D → B' 14 e = b.2.1 14 e) (h15 : ∀ e, 1 ≤ e → e ≤ D → B' 15 e = b.2.1 15 e) (h2 : ∀ o, o < S → B' 2 o = b.2.1 2 o) (g0 : ∀ o, o < S → g' 0 o = g 0 o) (g3 : ∀ e o, 1 ≤ e → e ≤ D → o < S → b.2.1 14 e = nI o → ¬ b.2.1 15 e = 0 → g' 3 o = g 3 o) : BS B' g' pj pr D = BS b.2.1 g pj pr D := by
  refine bsT_congr (fun e h1 h2' => ctx_eq (h14 e h1 h2') (h15 e h1 h2') ?_)
  rcases lv15 h h1 (Nat.le_trans h2' hD) with ⟨q, -⟩ | ⟨o, q1, q2, -, q3⟩
  · exact Or.inl q
  · exact Or.inr ⟨o, by omega, q2, h2 o q1, g0 o q1, g3 e o h1 h2' q1 q2⟩
theorem TT0 {c : S9} (h14 : c.1 14 = 0) (h15 : c.1 15 = 0) : TT c [] [] := ⟨⟨h14, fun i t h => by cases i <;> exact nomatch h⟩, h15, rfl⟩
theorem SM_T {b c : S9} {g : GH} {S m d np wp : Nat} {xo xu : Int32} (h : SM b c g (S + 1) m d np S xo xu wp) (hc : CDs b.2.1 c.2.1 g S) : SM b c g (S + 1) m d np (S + 1) xo xu wp := by
  obtain ⟨h1, h2, h3, h4, h5, h6, h7, h8, h9, h10, h11, h12⟩ := h
  refine ⟨h1, h2, h3, h4, h5, h6, h7, h8, h9, Nat.le_refl _, fun s hs => ?_, fun s hs => ?_⟩
  · by_cases e : s = S
    · subst e; exact hc
    · exact h11 s (by omega)
  · have e1 : csg g (S + 1) = g 10 S := by unfold csg; rw [if_neg (by omega)]; rfl
    rw [e1]
    by_cases e : s = S
    · subst e; exact Nat.le_refl _
    · have := h12 s (by omega)
      have := hc.2.2.2.1
      omega
theorem b_step {b c : S9} {g : GH} {S m d np pl pr pj p j : Nat} {x kd v k1 ck tg ct : Int32} {w : TL} (h : R0 b c g S m d np pl pr pj p) (hw : WH b c j p x kd v) (hS : S < 300) (hk1 : vp_nar .char k1 = k1) (hkd : kdm k1 ck)
    (h61 : k1 = 61 → ∃ p : Nat, p < 26 ∧ tg = nI p ∧ ct = nI p) (h65 : k1 = 65 → ∃ q : Nat, q < 26 ∧ tg = nI q ∧ b.2.1 13 q = 1 ∧ ct = c.2.1 14 q ∧ g 8 q < ow1 b.2.1 d np) :
    ∃ (b' : S9) (g' : GH), AX b' (mStep c S ck ct (nI p) m j) g' S (m + 1) d np pl pr pj (p + 1) ∧ XE b' (mStep c S ck ct (nI p) m j) S pl pl 0 ∧ BS b'.2.1 g' pj pr d = BS b.2.1 g pj pr d ∧ g' 0 S = m ∧ b'.2.1 2 S = k1 ∧ ASf b b' S ∧ WFc c (mStep c S ck ct (nI p) m j) ∧ MR b' (mStep c S ck ct (nI p) m j) g' (S + 1) pl ∧
      (k1 = 65 → CDs b'.2.1 (mStep c S ck ct (nI p) m j).2.1 g' S) ∧ ∀ (σ : S9) (Φ : Int32 → S9 → Prop), Cs b w σ → (∀ σ', Cs b' [] σ' → Φ 1 σ') → wp_X0_addsStep k1 tg σ Φ := by
  obtain ⟨b', prc, ⟨hp1, hp2⟩, hb, hf, hcl⟩ := a_step (w := w) (tg := tg) h hS hw.p10 hk1
  obtain ⟨n1, n2, n3, n4, n5, n6, n7, n8, n9, n10, n11⟩ := h.sm.num
  have hm := RM_m h.rm n2 n9
  have e12 := h.mr.1
  have hc : ADDC c.2.1 (mStep c S ck ct (nI p) m j).2.1 m pl ck ct (nI p) := by
    refine ⟨rfl, rfl, ?_, ?_, rfl, rfl, rfl, rfl, rfl, rfl⟩
    · show upd (c.2.1 8) m (c.1 12) = _
      rw [e12]
    · show upd (c.2.1 9) m (c.1 12) = _
      rw [e12]
  have hn : NUM b' (mStep c S ck ct (nI p) m j) (S + 1) (m + 1) d np :=
    ⟨hf.2.1, by omega, rfl, (hf.1 6 (by decide) (by decide) (by decide) (by decide) (by decide) (by decide)).trans n4, n5, n6, (hf.1 5 (by decide) (by decide) (by decide) (by decide) (by decide) (by decide)).trans n7, n8, n9, rfl, n11⟩
  have b2 : b'.2.1 2 S = k1 := by rw [hb.1.1, pk_us]
  have hxo : (k1 = 42 ∨ k1 = 63) → xoS b'.2.1 S = nI S := fun z => by unfold xoS; rw [b2, if_pos (z.elim Or.inr Or.inl)]
  have hxo2 : ∀ s, s < S → ¬ xoS b'.2.1 S = nI s := fun s hs z => by
    unfold xoS at z
    split at z
    · have := nIj (by omega) (by omega) z; omega
    · exact nIm1 (by omega) z.symm
  obtain ⟨hsm, hdf⟩ := add_SM (ck := ck) (ct := ct) h.sm h.df h.pn hS (by omega) hb hc hn (hf.1 8 (by decide) (by decide) (by decide) (by decide) (by decide) (by decide)) hp1 hp2 (Nat.le_refl _) hw.p3 hxo hxo2 hkd h61 h65
  have hrm : RM b'.2.1 (S + 1) (m + 1) d np (xcS b'.2.1 S) := by
    have q := h.rm
    unfold RM at q ⊢
    rw [cntL_congr (B := b.2.1) (fun e _ _ => ⟨by rw [hb.2.1.2.2.2.1], by rw [hb.2.1.2.2.2.2.1]⟩)]
    have hx : xcS b'.2.1 S ≤ 1 := by unfold xcS; split <;> omega
    have e : inD b'.2.1 d ↔ inD b.2.1 d := inD_congr hb.2.1.2.2.2.1
    by_cases z : inD b.2.1 d
    · rw [if_pos z] at q; rw [if_pos (e.mpr z)]; omega
    · rw [if_neg z] at q; rw [if_neg (fun y => z (e.mp y))]; omega
  have h9S : b'.2.1 9 S = nI pl := by rw [hb.1.2.2.2.2, pk_us]
  have hcg : csg (gNew g S m (ow1 b.2.1 d np) (el1 b.2.1 d) p pl) S = pl := by rw [csg_new (Nat.le_refl _)]; exact h.mr.2.1.symm
  have hmk : ∀ k, k < pl → (mStep c S ck ct (nI p) m j).2.1 12 k = mk (b'.2.1 10 k) ∧ (mStep c S ck ct (nI p) m j).2.1 13 k = b'.2.1 11 k ∧ okS (b'.2.1 10 k) ∧ (b'.2.1 10 k = 97 → ∃ p : Nat, p < 26 ∧ b'.2.1 11 k = nI p) := by
    rw [hb.2.1.1, hb.2.1.2.1]; exact h.mr.2.2
  have hgo : ∀ k s, k ≠ 4 → s < S → gNew g S m (ow1 b.2.1 d np) (el1 b.2.1 d) p pl k s = g k s := fun k s hk hs => gNew_old ⟨fun _ => by omega, fun z => absurd z hk⟩
  refine ⟨b', gNew g S m (ow1 b.2.1 d np) (el1 b.2.1 d) p pl, ⟨hsm, hdf, hrm, by rw [hb.2.1.2.2.2.2.2, pk_us], hf.2.2.1, by rw [gNew_0], by rw [gNew_1], gNew_6, hb.2.2.2.1.2.1, hb.2.2.2.2.1.2.1, ?_, ?_⟩, ⟨⟨hf.2.1, hS, h9S, e12, Nat.le_refl _⟩, hmk, ?_, ?_, ?_, ?_⟩, ?_, gNew_0, b2, hf, ?_, ?_, fun z => ?_, hcl⟩
  · rw [gNew_0, hc.2.2.1, pk_us]
  · exact hcg.symm
  · rw [Nat.sub_self]; exact TT0 rfl rfl
  · rw [Nat.sub_self]; rfl
  · rw [Nat.sub_self]; rfl
  · intro k hk; omega
  · refine BS_eq h.sm (by omega) (Nat.le_refl _) (fun e _ _ => by rw [hb.2.1.2.2.2.1]) (fun e _ _ => by rw [hb.2.1.2.2.2.2.1]) (fun o ho => by rw [hb.1.1, pk_un (by omega)]) (fun o ho => hgo 0 o (by decide) ho) (fun _ o _ _ _ _ _ => gNew_3)
  · refine ⟨fun k hk => ?_, rfl, rfl, rfl, rfl, rfl⟩
    unfold mStep mCode mStart
    simp only [sF_1, sA_1, upd_at]
    rw [if_neg (by omega), if_neg (by omega), if_neg (by omega), if_neg (by omega), if_neg (by omega), if_neg (by omega)]
  · refine ⟨e12, ?_, hmk⟩
    unfold csg
    rw [if_neg (by omega), show S + 1 - 1 = S from rfl, gNew_10]
  · unfold CDs
    rw [gNew_10, gNew_0, hcg, Nat.sub_self, b2, z]
    refine ⟨h9S, by rw [hc.2.2.1, pk_us], by rw [hc.2.2.2.1, pk_us], ⟨Nat.le_refl _, by omega⟩, by rw [hc.2.2.2.2.2.1, pk_us]; rfl, fun k hk => by omega, rfl⟩
/-- the class's part of a step that begins -/
theorem c_aw {σ : S9} {q : Int32} {Φ : Int32 → S9 → Prop} (k : Φ 1 (sF σ 7 q)) : wp_X0_awaits q σ (fun r σ1 => (r = 0 → Φ 0 σ1) ∧ (¬ r = 0 → Φ 1 σ1)) := by
  unfold wp_X0_awaits
  exact nm_e (br_f (by decide) k)
theorem c_aw2 {σ : S9} {q : Int32} {Φ : Int32 → S9 → Prop} (k : Φ 1 (sF σ 7 q)) : wp_X0_awaits q σ (fun r σ1 => narrow .boolean (.int r) = .int r ∧ Φ r σ1) := by
  unfold wp_X0_awaits
  exact nm_e ⟨rfl, k⟩
theorem s_isProc {σ : S9} {Φ : Int32 → S9 → Prop} {x : Int32} (h1 : (¬ x < 65 ∧ ¬ 90 < x) → Φ 1 σ) (h0 : ¬ (¬ x < 65 ∧ ¬ 90 < x) → Φ 0 σ) : wp_X10_isProcedure x σ Φ := by
  unfold wp_X10_isProcedure
  exact br_c (fun z => h0 (fun y => y.1 z)) (fun z => br_c (fun z2 => h0 (fun y => y.2 z2)) (fun z2 => h1 ⟨z, z2⟩))
/-- the reference rejects the word where a statement begins -/
theorem m_rej {c : S9} {B : AR} {g : GH} {pj pr d S j : Nat} {kd : Int32} (hw : wd c j kd) (hd : d ≤ 20) (h8 : c.1 8 = nI S) (hS : S ≤ 300) (h0 : d = 0 → ¬ kd = 0 ∧ ¬ (kd = 4 ∧ c.2.1 1 (j + 1) = 223)) (h1 : 1 ≤ d → ¬ kd = 225)
    (hr : S = 300 ∨ (kd = 4 ∧ ∃ q : Nat, q < 26 ∧ c.2.1 2 j = nI q ∧ c.2.1 15 q = 0) ∨ (¬ kd = 4 ∧ ¬ kd = 3 ∧ ¬ kd = 164 ∧ ¬ kd = 133 ∧ ¬ kd = 163 ∧ ¬ kd = 142)) : MFail c (BS B g pj pr d) j := by
  have hl : (BS B g pj pr d).length ≤ 4000 := by unfold BS; rw [bsT_len]; omega
  by_cases e : S = 300
  · subst e
    exact ⟨c, _, FF.rf c, hl, fun Ψ k => m_stmt hw hd h0 h1 (fun τ K h kk => s_stmt300 h hw h8 kk) k⟩
  · have hff : FF c (mStart c S) := ⟨⟨rfl, rfl, rfl, rfl, rfl⟩, rfl, rfl⟩
    rcases hr with z | ⟨z, q, q1, q2, q3⟩ | ⟨z1, z2, z3, z4, z5, z6⟩
    · exact absurd z e
    · subst z
      exact ⟨mStart c S, _, hff, hl, fun Ψ k => m_stmt hw hd h0 h1 (fun τ K h kk => s_stmtCall0 h hw q2 q1 h8 (by omega) q3 kk) k⟩
    · exact ⟨mStart c S, _, hff, hl, fun Ψ k => m_stmt hw hd h0 h1 (fun τ K h kk => s_stmtBad h hw h8 (by omega) z1 z2 z3 z4 z5 z6 kk) k⟩
