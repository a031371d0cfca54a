/-! ===== terms: the class's replay against the reference's count ===== -/
def KF (σ σ' : S9) : Prop := (∀ k, k ≠ 25 → k ≠ 26 → σ'.1 k = σ.1 k) ∧ (∀ k, k ≠ 24 → k ≠ 25 → k ≠ 26 → k ≠ 27 → σ'.2.1 k = σ.2.1 k) ∧ σ'.2.2 = σ.2.2
theorem KF.rf (σ : S9) : KF σ σ := ⟨fun _ _ _ => rfl, fun _ _ _ _ _ => rfl, rfl⟩
theorem KF.tr {σ σ1 σ2 : S9} (h : KF σ σ1) (h' : KF σ1 σ2) : KF σ σ2 := ⟨fun k a b => (h'.1 k a b).trans (h.1 k a b), fun k a b c d => (h'.2.1 k a b c d).trans (h.2.1 k a b c d), h'.2.2.trans h.2.2⟩
theorem KF_ex {σ σ' : S9} (h : KF σ σ') : σ' = sA (sA (sA (sA (sF (sF σ 25 (σ'.1 25)) 26 (σ'.1 26)) 24 (σ'.2.1 24)) 25 (σ'.2.1 25)) 26 (σ'.2.1 26)) 27 (σ'.2.1 27) := by
  refine Prod.ext (funext fun k => ?_) (Prod.ext (funext fun k => ?_) h.2.2)
  · simp only [sA_1, sF_1, upd_at]
    by_cases e : k = 26
    · rw [if_pos e, e]
    · rw [if_neg e]
      by_cases e2 : k = 25
      · rw [if_pos e2, e2]
      · rw [if_neg e2]; exact h.1 k e2 e
  · simp only [sA_21, sF_21, vup_at]
    by_cases e : k = 27
    · rw [if_pos e, e]
    · rw [if_neg e]
      by_cases e2 : k = 26
      · rw [if_pos e2, e2]
      · rw [if_neg e2]
        by_cases e3 : k = 25
        · rw [if_pos e3, e3]
        · rw [if_neg e3]
          by_cases e4 : k = 24
          · rw [if_pos e4, e4]
          · rw [if_neg e4]; exact h.2.1 k e4 e3 e2 e
theorem RR_KF0 {σ τ : S9} {lim : Nat} {x y : Int32} {a b c d : Nat → Int32} (h : RR σ τ lim) : RR (sA (sA (sA (sA (sF (sF σ 25 x) 26 y) 24 a) 25 b) 26 c) 27 d) τ lim := h
theorem RR_KF {σ σ' τ : S9} {lim : Nat} (h : RR σ τ lim) (hk : KF σ σ') : RR σ' τ lim := by rw [KF_ex hk]; exact RR_KF0 h
def sm (s : Int32) : Bool := s == 48 || s == 97 || s == 126 || s == 64
def RG (s r b : Int32) : Prop := (sm s = true → r = -1 ∧ b = 0) ∧ (sm s = false → r = b)
def EN (t : T3) (s l r : Int32) : Prop := okS s ∧ mk s = t.1 ∧ (s ≠ 35 → l = t.2.1 ∧ RG s r t.2.2)
theorem mk_inj {s s' : Int32} (h : okS s) (h' : okS s') (e : mk s = mk s') : s = s' := by
  have : ∀ s ∈ ([48, 97, 35, 126, 64, 42, 47, 37, 43, 45, 60, 61] : List Int32), ∀ s' ∈ ([48, 97, 35, 126, 64, 42, 47, 37, 43, 45, 60, 61] : List Int32), mk s = mk s' → s = s' := by decide +kernel
  exact this s h s' h' e
theorem mk_35 {s : Int32} (h : okS s) : mk s = 35 ↔ s = 35 := by
  have : ∀ s ∈ ([48, 97, 35, 126, 64, 42, 47, 37, 43, 45, 60, 61] : List Int32), mk s = 35 ↔ s = 35 := by decide +kernel
  exact this s h
theorem EN_key {t : T3} {s l r s' a r' b : Int32} (h : EN t s l r) (hs : okS s') (h35 : s' ≠ 35) (hr : RG s' r' b) : (s = s' ∧ l = a ∧ r = r') ↔ t = (mk s', a, b) := by
  obtain ⟨h1, h2, h3⟩ := h
  constructor
  · rintro ⟨rfl, rfl, rfl⟩
    obtain ⟨q1, q2⟩ := h3 h35
    refine T3_ext h2.symm q1.symm ?_
    cases e : sm s
    · exact (q2.2 e).symm.trans (hr.2 e)
    · exact (q2.1 e).2.trans (hr.1 e).2.symm
  · intro e
    have e1 : t.1 = mk s' := by rw [e]
    have e2 : t.2.1 = a := by rw [e]
    have e3 : t.2.2 = b := by rw [e]
    have es : s = s' := mk_inj h1 hs (h2.trans e1)
    subst es
    obtain ⟨q1, q2⟩ := h3 h35
    refine ⟨rfl, q1.trans e2, ?_⟩
    cases e : sm s
    · rw [q2.2 e, hr.2 e, e3]
    · rw [(q2.1 e).1, (hr.1 e).1]
def CT (σ : S9) (ts : List T3) (ws : List Int32) : Prop := σ.1 25 = nI ts.length ∧ (∀ (i : Nat) (t : T3), ts[i]? = some t → EN t (σ.2.1 24 i) (σ.2.1 25 i) (σ.2.1 26 i)) ∧ σ.1 26 = nI ws.length ∧ lst (σ.2.1 27) ws.length = ws
theorem ct_new {σ : S9} {ts : List T3} {ws : List Int32} {t : T3} {s l r : Int32} (h : CT σ ts ws) (hl : ts.length < 120) (he : EN t s l r) :
    ∃ σ', CT σ' (ts ++ [t]) ws ∧ KF σ σ' ∧ ∀ Φ : Int32 → S9 → Prop, Φ (nI ts.length) σ' → wp_X7_newTerm s l r σ Φ := by
  obtain ⟨h1, h2, h3, h4⟩ := h
  obtain ⟨σ', hσ⟩ : ∃ σ', σ' = sF (sA (sA (sA σ 24 (upd (σ.2.1 24) ts.length s)) 25 (upd (σ.2.1 25) ts.length l)) 26 (upd (σ.2.1 26) ts.length r)) 25 (nI (ts.length + 1)) := ⟨_, rfl⟩
  refine ⟨σ', ⟨?_, fun i t' ht => ?_, ?_, ?_⟩, ⟨fun k a b => ?_, fun k a b c d => ?_, by rw [hσ]; rfl⟩, fun Φ k => ?_⟩
  · rw [hσ, List.length_append]; rfl
  · rw [hσ]
    show EN t' (upd (σ.2.1 24) ts.length s i) (upd (σ.2.1 25) ts.length l i) (upd (σ.2.1 26) ts.length r i)
    by_cases e : i < ts.length
    · rw [List.getElem?_append_left e] at ht
      rw [pk_un (by omega), pk_un (by omega), pk_un (by omega)]
      exact h2 i t' ht
    · have e2 : i = ts.length := by
        have := (List.getElem?_eq_some_iff.mp ht).1
        simp only [List.length_append, List.length_cons, List.length_nil] at this
        omega
      subst e2
      rw [List.getElem?_append_right (Nat.le_refl _), Nat.sub_self] at ht
      have e3 : t = t' := by simpa using ht
      rw [← e3, pk_us, pk_us, pk_us]
      exact he
  · rw [hσ]; exact h3
  · rw [hσ]; exact h4
  · rw [hσ]; simp only [sF_1, sA_1, upd_at]; rw [if_neg a]
  · rw [hσ]; simp only [sF_21, sA_21, vup_at]; rw [if_neg c, if_neg b, if_neg a]
  · unfold wp_X7_newTerm
    rw [h1, okS_nar (Or.inl he.1)]
    refine nm_e (pk_le 120 ts.length (fun z => absurd z (by omega)) (fun _ => ?_))
    have hin : vp_in (nI ts.length) 120 := pk_in _ 120 hl
    refine ⟨hin, nm_e ⟨hin, nm_e ⟨hin, nm_e (nm_e ?_)⟩⟩⟩
    rw [nI_clamp (by omega)]
    rw [hσ] at k
    simp only [sF_1, sA_1, sA_21, vup_at, Nat.reduceEqDiff, if_false, h1, nI_1, nI_pred]
    exact k
theorem ct_of {σ : S9} {ts : List T3} {ws : List Int32} {s a r b : Int32} (h : CT σ ts ws) (hl : ts.length < 120) (hs : okS s) (h35 : s ≠ 35) (hr : RG s r b) :
    ∃ σ', CT σ' (tput (mk s) a b ts).2 ws ∧ KF σ σ' ∧ ∀ Φ : Int32 → S9 → Prop, Φ (nI (tput (mk s) a b ts).1) σ' → wp_X7_termOf s a r σ Φ := by
  have hm : ¬ mk s = 35 := fun e => h35 ((mk_35 hs).mp e)
  have h0 := h
  obtain ⟨h1, h2, h3, h4⟩ := h0
  have hle := tIx_le (mk s, a, b) ts
  -- the search comes to the place of the first like it
  have srch : ∀ (Φ : Int32 → S9 → Prop), (∀ n, lp_X7_termOf_b3 Φ (n + 1) s a r (nI (tIx (mk s, a, b) ts)) σ) → wp_X7_termOf s a r σ Φ := by
    intro Φ q
    unfold wp_X7_termOf
    refine nm_e ⟨tIx (mk s, a, b) ts + 1, ?_⟩
    suffices hh : ∀ d i, tIx (mk s, a, b) ts - i = d → i ≤ tIx (mk s, a, b) ts → lp_X7_termOf_b3 Φ (d + 1) s a r (nI i) σ from hh _ 0 rfl (Nat.zero_le _)
    intro d
    induction d with
    | zero =>
      intro i e1 e2
      rw [show i = tIx (mk s, a, b) ts by omega]; exact q 0
    | succ d ih =>
      intro i e1 e2
      show bd_X7_termOf_b3 _ _ _ _ _ _ _
      unfold bd_X7_termOf_b3
      rw [h1, nI_clamp (by omega), nI_1]
      refine pk_le ts.length i (fun z => absurd z (by omega)) (fun z => ?_)
      have hin : vp_in (nI i) 120 := pk_in i 120 (by omega)
      have ht : ts[i]? = some ts[i] := List.getElem?_eq_getElem (by omega)
      have hno := tIx_no (show i < tIx (mk s, a, b) ts by omega)
      have key := EN_key (a := a) (h2 i _ ht) hs h35 hr
      have hk := ih (i + 1) (by omega) (by omega)
      refine ⟨hin, br_c (fun z1 => ⟨hin, br_c (fun z2 => ⟨hin, br_c (fun z3 => ?_) (fun _ => nm_e hk)⟩) (fun _ => nm_e hk)⟩) (fun _ => nm_e hk)⟩
      exact absurd (by rw [ht, key.mp ⟨z1, z2, z3⟩]) hno
  by_cases e : tIx (mk s, a, b) ts < ts.length
  · have et : tput (mk s) a b ts = (tIx (mk s, a, b) ts, ts) := by unfold tput; rw [if_neg hm, if_pos e]
    rw [et]
    refine ⟨σ, h, KF.rf σ, fun Φ k => srch Φ (fun n => ?_)⟩
    show bd_X7_termOf_b3 _ _ _ _ _ _ _
    unfold bd_X7_termOf_b3
    rw [h1, nI_clamp (by omega)]
    refine pk_le ts.length (tIx (mk s, a, b) ts) (fun z => absurd z (by omega)) (fun z => ?_)
    have hin : vp_in (nI (tIx (mk s, a, b) ts)) 120 := pk_in (tIx (mk s, a, b) ts) 120 (by omega)
    obtain ⟨z1, z2, z3⟩ := (EN_key (a := a) (h2 _ _ (tIx_at e)) hs h35 hr).mpr rfl
    exact ⟨hin, br_t z1 ⟨hin, br_t z2 ⟨hin, br_t z3 k⟩⟩⟩
  · have et : tput (mk s) a b ts = (ts.length, ts ++ [(mk s, a, b)]) := by unfold tput; rw [if_neg hm, if_neg e]
    rw [et]
    obtain ⟨σ', c1, c2, c3⟩ := ct_new (t := (mk s, a, b)) (s := s) (l := a) (r := r) h hl ⟨hs, rfl, fun _ => ⟨rfl, hr⟩⟩
    refine ⟨σ', c1, c2, fun Φ k => srch Φ (fun n => ?_)⟩
    show bd_X7_termOf_b3 _ _ _ _ _ _ _
    unfold bd_X7_termOf_b3
    rw [h1]
    exact pk_le ts.length (tIx (mk s, a, b) ts) (fun _ => c3 _ k) (fun z => absurd z (by omega))
theorem ct_push {σ : S9} {ts : List T3} {ws : List Int32} {v : Int32} (h : CT σ ts ws) (hl : ws.length < 60) : ∃ σ', CT σ' ts (v :: ws) ∧ KF σ σ' ∧ ∀ Φ : S9 → Prop, Φ σ' → wp_X4_push_11 v σ Φ := by
  obtain ⟨h1, h2, h3, h4⟩ := h
  obtain ⟨σ', hσ⟩ : ∃ σ', σ' = sF (sA σ 27 (upd (σ.2.1 27) ws.length v)) 26 (nI (ws.length + 1)) := ⟨_, rfl⟩
  refine ⟨σ', ⟨by rw [hσ]; exact h1, by rw [hσ]; exact h2, by rw [hσ]; rfl, ?_⟩, ⟨fun k a b => ?_, fun k a b c d => ?_, by rw [hσ]; rfl⟩, fun Φ k => ?_⟩
  · rw [hσ]
    show lst (upd (σ.2.1 27) ws.length v) (ws.length + 1) = _
    rw [lst_push, h4]
  · rw [hσ]; simp only [sF_1, sA_1, upd_at]; rw [if_neg b]
  · rw [hσ]; simp only [sF_21, sA_21, vup_at]; rw [if_neg d]
  · unfold wp_X4_push_11
    rw [h3]
    refine pk_le 60 ws.length (fun z => absurd z (by omega)) (fun _ => ⟨pk_in _ 60 hl, nm_e (nm_e ?_)⟩)
    rw [nI_clamp (by omega), show (sA σ 27 (upd (σ.2.1 27) ws.length v)).1 26 = nI ws.length from h3, nI_1, ← hσ]
    exact k
theorem ct_pop {σ : S9} {ts : List T3} {ws : List Int32} {v : Int32} (h : CT σ ts (v :: ws)) (hl : ws.length < 60) : ∃ σ', CT σ' ts ws ∧ KF σ σ' ∧ ∀ Φ : Int32 → S9 → Prop, Φ v σ' → wp_X4_pop_11 σ Φ := by
  obtain ⟨h1, h2, h3, h4⟩ := h
  have h3' : σ.1 26 = nI (ws.length + 1) := h3
  have h4' : σ.2.1 27 ws.length :: lst (σ.2.1 27) ws.length = v :: ws := h4
  refine ⟨sF σ 26 (nI ws.length), ⟨h1, h2, rfl, (List.cons.inj h4').2⟩, ⟨fun k a b => by rw [sF_1, upd_at, if_neg b], fun k a b c d => rfl, rfl⟩, fun Φ k => ?_⟩
  unfold wp_X4_pop_11
  rw [h3', nI_pred]
  refine br_f (nI_ne0 (by omega) (by omega)) (nm_e ⟨pk_in _ 60 hl, ?_⟩)
  show Φ (σ.2.1 27 (nI ws.length).toNatClampNeg) _
  rw [nI_clamp (by omega), (List.cons.inj h4').1]; exact k
theorem ct_sign {σ : S9} {ts : List T3} {ws : List Int32} {s v : Int32} (h : CT σ ts ws) (hl : ts.length < 120) (hs : okS s) (hw : ws.length ≤ 60) (hn : need (mk s) ws.length) (hh : hstep (mk s) ws.length ≤ 60) :
    ∃ σ', CT σ' (tstep (mk s) v (ts, ws)).1 (tstep (mk s) v (ts, ws)).2 ∧ KF σ σ' ∧ ∀ Φ : S9 → Prop, Φ σ' → wp_X7_addSign s v σ Φ := by
  have cls : (s = 48 ∨ s = 97) ∨ s = 35 ∨ (s = 126 ∨ s = 64) ∨ (sm s = false ∧ ¬ isAt (mk s) ∧ ¬ isUn (mk s) ∧ ¬ s = 48 ∧ ¬ s = 97 ∧ ¬ s = 35 ∧ ¬ s = 126 ∧ ¬ s = 64) := by
    have : ∀ s ∈ ([48, 97, 35, 126, 64, 42, 47, 37, 43, 45, 60, 61] : List Int32), (s = 48 ∨ s = 97) ∨ s = 35 ∨ (s = 126 ∨ s = 64) ∨ (sm s = false ∧ ¬ (mk s = 0 ∨ mk s = 1 ∨ mk s = 35) ∧ ¬ (mk s = 2 ∨ mk s = 3) ∧ ¬ s = 48 ∧ ¬ s = 97 ∧ ¬ s = 35 ∧ ¬ s = 126 ∧ ¬ s = 64) := by decide +kernel
    exact this s hs
  rcases cls with c | c | c | ⟨c0, c1, c2, c3, c4, c5, c6, c7⟩
  · have hat : isAt (mk s) := by rcases c with rfl | rfl; exact Or.inl (by decide); exact Or.inr (Or.inl (by decide))
    have h35 : s ≠ 35 := by rcases c with rfl | rfl <;> decide
    have hsm : sm s = true := by rcases c with rfl | rfl <;> decide
    have hh2 : ws.length < 60 := by unfold hstep at hh; rw [if_pos hat] at hh; omega
    obtain ⟨σ1, a1, a2, a3⟩ := ct_of (a := v) (r := -1) (b := 0) h hl hs h35 ⟨fun _ => ⟨rfl, rfl⟩, fun z => absurd (hsm.symm.trans z) (by decide)⟩
    obtain ⟨σ2, b1, b2, b3⟩ := ct_push (v := nI (tput (mk s) v 0 ts).1) a1 hh2
    refine ⟨σ2, ?_, a2.tr b2, fun Φ k => ?_⟩
    · unfold tstep; rw [if_pos hat]; exact b1
    · have q : wp_X7_addSign_b12 Φ s v σ := by unfold wp_X7_addSign_b12; exact a3 _ (b3 _ k)
      unfold wp_X7_addSign
      rcases c with rfl | rfl
      · exact br_t rfl q
      · exact br_f (by decide) (br_t rfl q)
  · subst c
    have hat : isAt (mk 35) := Or.inr (Or.inr (by decide))
    have hh2 : ws.length < 60 := by unfold hstep at hh; rw [if_pos hat] at hh; omega
    obtain ⟨σ1, a1, a2, a3⟩ := ct_new (t := (mk 35, v, 0)) (s := 35) (l := -1) (r := -1) h hl ⟨hs, rfl, fun z => absurd rfl z⟩
    obtain ⟨σ2, b1, b2, b3⟩ := ct_push (v := nI ts.length) a1 hh2
    have et : tput (mk 35) v 0 ts = (ts.length, ts ++ [(mk 35, v, 0)]) := by unfold tput; rw [if_pos (by decide)]
    refine ⟨σ2, ?_, a2.tr b2, fun Φ k => ?_⟩
    · unfold tstep; rw [if_pos hat]
      show CT σ2 (tput (mk 35) v 0 ts).2 (nI (tput (mk 35) v 0 ts).1 :: ws)
      rw [et]; exact b1
    · unfold wp_X7_addSign
      exact br_f (by decide) (br_f (by decide) (br_t rfl (a3 _ (b3 _ k))))
  · have hun : isUn (mk s) := by rcases c with rfl | rfl; exact Or.inl (by decide); exact Or.inr (by decide)
    have hat : ¬ isAt (mk s) := by rcases c with rfl | rfl <;> (intro z; rcases z with z | z | z <;> exact absurd z (by decide))
    have h35 : s ≠ 35 := by rcases c with rfl | rfl <;> decide
    have hsm : sm s = true := by rcases c with rfl | rfl <;> decide
    obtain ⟨x, ws, rfl⟩ : ∃ x w, ws = x :: w := by
      cases ws with
      | nil => exact absurd (hn.1 hun) (by simp)
      | cons x w => exact ⟨x, w, rfl⟩
    simp only [List.length_cons] at hw
    obtain ⟨σ0, p1, p2, p3⟩ := ct_pop h (by omega)
    obtain ⟨σ1, a1, a2, a3⟩ := ct_of (a := x) (r := -1) (b := 0) p1 hl hs h35 ⟨fun _ => ⟨rfl, rfl⟩, fun z => absurd (hsm.symm.trans z) (by decide)⟩
    obtain ⟨σ2, b1, b2, b3⟩ := ct_push (v := nI (tput (mk s) x 0 ts).1) a1 (by omega)
    refine ⟨σ2, ?_, p2.tr (a2.tr b2), fun Φ k => ?_⟩
    · unfold tstep; rw [if_neg hat, if_pos hun]; exact b1
    · have q : wp_X7_addSign_b64 Φ s σ := by unfold wp_X7_addSign_b64; exact p3 _ (a3 _ (b3 _ k))
      unfold wp_X7_addSign
      rcases c with rfl | rfl
      · exact br_f (by decide) (br_f (by decide) (br_f (by decide) (br_t rfl q)))
      · exact br_f (by decide) (br_f (by decide) (br_f (by decide) (br_f (by decide) (br_t rfl q))))
  · obtain ⟨y, x, ws, rfl⟩ : ∃ y x w, ws = y :: x :: w := by
      have := hn.2 c1 c2
      match ws, this with
      | [], z => exact absurd z (by simp)
      | [_], z => exact absurd z (by simp)
      | y :: x :: w, _ => exact ⟨y, x, w, rfl⟩
    simp only [List.length_cons] at hw
    obtain ⟨σ0, p1, p2, p3⟩ := ct_pop h (by simp only [List.length_cons]; omega)
    obtain ⟨σ9, r1, r2, r3⟩ := ct_pop p1 (by omega)
    obtain ⟨σ1, a1, a2, a3⟩ := ct_of (a := x) (r := y) (b := y) r1 hl hs c5 ⟨fun z => absurd (c0.symm.trans z) (by decide), fun _ => rfl⟩
    obtain ⟨σ2, b1, b2, b3⟩ := ct_push (v := nI (tput (mk s) x y ts).1) a1 (by omega)
    refine ⟨σ2, ?_, p2.tr (r2.tr (a2.tr b2)), fun Φ k => ?_⟩
    · unfold tstep; rw [if_neg c1, if_neg c2]; exact b1
    · unfold wp_X7_addSign
      exact br_f c3 (br_f c4 (br_f c5 (br_f c6 (br_f c7 (p3 _ (r3 _ (a3 _ (b3 _ k))))))))
theorem trep_ws {M V : Nat → Int32} {a n : Nat} (h : hok M a n) : (trep M V a n).2.length = hgt M a n := by
  induction n with
  | zero => rfl
  | succ n ih =>
    have := ih (fun k hk => h k (by omega))
    show (tstep _ _ _).2.length = hstep _ _
    rw [← this]
    exact tstep_ws (by rw [this]; exact (h n (by omega)).1)
theorem hok_le {M : Nat → Int32} {a n k : Nat} (h : hok M a n) (hk : k ≤ n) : hgt M a k ≤ 60 := by
  cases k with
  | zero => exact Nat.zero_le _
  | succ k => exact (h k (by omega)).2
theorem ct_loop {B C : AR} {σ0 : S9} {g : GH} {S M pl s : Nat} (hP : PG B C g S M pl) (hs : s < S) (h0 : σ0.2.1 10 = B 10 ∧ σ0.2.1 11 = B 11) :
    ∀ (d k : Nat) (σ : S9), g 10 s - k = d → csg g s ≤ k → k ≤ g 10 s → KF σ0 σ → CT σ (trep (C 12) (C 13) (csg g s) (k - csg g s)).1 (trep (C 12) (C 13) (csg g s) (k - csg g s)).2 →
    ∃ σ', KF σ0 σ' ∧ ∀ Φ : Int32 → S9 → Prop, Φ (nI (trep (C 12) (C 13) (csg g s) (g 10 s - csg g s)).1.length) σ' → lp_X7_differentTerms_b27 Φ (d + 1) (nI (g 10 s)) (nI k) σ := by
  obtain ⟨⟨c1, c2, c3, c4, c5, c6, c7⟩, hpl⟩ := hP.cd s hs
  have hps := hP.ps
  intro d
  induction d with
  | zero =>
    intro k σ e1 e2 e3 hk hc
    have : k = g 10 s := by omega
    subst this
    refine ⟨σ, hk, fun Φ q => ?_⟩
    show bd_X7_differentTerms_b27 _ _ _ _ _
    unfold bd_X7_differentTerms_b27
    refine pk_le (g 10 s) (g 10 s) (fun _ => ?_) (fun z => absurd z (by omega))
    rw [hc.1]; exact q
  | succ d ih =>
    intro k σ e1 e2 e3 hk hc
    obtain ⟨m1, m2, m3, -⟩ := hP.mk k (by omega)
    have hk0 := c6 (k - csg g s) (by omega)
    rw [show csg g s + (k - csg g s) = k by omega] at hk0
    have hw := trep_ws (V := C 13) (fun j hj => c6 j (by omega) : hok (C 12) (csg g s) (k - csg g s))
    have h60 := hok_le c6 (show k - csg g s ≤ g 10 s - csg g s by omega)
    have htl := trep_len (C 12) (C 13) (csg g s) (k - csg g s)
    have hh : hstep (C 12 k) (hgt (C 12) (csg g s) (k - csg g s)) ≤ 60 := by
      have := hk0.2
      unfold hgt at this
      rw [show csg g s + (k - csg g s) = k by omega] at this
      exact this
    rw [m1] at hk0 hh
    obtain ⟨σ1, a1, a2, a3⟩ := ct_sign (v := B 11 k) hc (by omega) m3 (by omega) (by rw [hw]; exact hk0.1) (by rw [hw]; exact hh)
    have et : tstep (mk (B 10 k)) (B 11 k) (trep (C 12) (C 13) (csg g s) (k - csg g s)) = trep (C 12) (C 13) (csg g s) (k + 1 - csg g s) := by
      rw [show k + 1 - csg g s = (k - csg g s) + 1 by omega]
      show _ = tstep (C 12 _) (C 13 _) _
      rw [show csg g s + (k - csg g s) = k by omega, m1, m2]
    have a1' : CT σ1 (tstep (mk (B 10 k)) (B 11 k) (trep (C 12) (C 13) (csg g s) (k - csg g s))).1 (tstep (mk (B 10 k)) (B 11 k) (trep (C 12) (C 13) (csg g s) (k - csg g s))).2 := a1
    rw [et] at a1'
    obtain ⟨σ', b1, b2⟩ := ih (k + 1) σ1 (by omega) (by omega) (by omega) (hk.tr a2) a1'
    refine ⟨σ', b1, fun Φ q => ?_⟩
    show bd_X7_differentTerms_b27 _ _ _ _ _
    unfold bd_X7_differentTerms_b27
    have hin : vp_in (nI k) 3000 := pk_in k 3000 (by omega)
    refine pk_le (g 10 s) k (fun z => absurd z (by omega)) (fun _ => ⟨hin, hin, ?_⟩)
    rw [nI_clamp (by omega), hk.2.1 10 (by decide) (by decide) (by decide) (by decide), hk.2.1 11 (by decide) (by decide) (by decide) (by decide), h0.1, h0.2, nI_1]
    exact a3 _ (nm_e (b2 Φ q))
theorem ct_all {σ : S9} {C : AR} {g : GH} {S M pl s : Nat} (hP : PG σ.2.1 C g S M pl) (hs : s < S) :
    ∃ σ', KF σ σ' ∧ ∀ Φ : Int32 → S9 → Prop, Φ (C 11 (g 0 s)) σ' → wp_X7_differentTerms (nI s) σ Φ := by
  obtain ⟨⟨c1, c2, c3, c4, c5, c6, c7⟩, hpl⟩ := hP.cd s hs
  have hsl := hP.sl
  have hk0 : KF σ (sF (sF σ 25 0) 26 0) := ⟨fun k a b => by simp only [sF_1, upd_at]; rw [if_neg b, if_neg a], fun k _ _ _ _ => rfl, rfl⟩
  obtain ⟨σ', b1, b2⟩ := ct_loop hP hs ⟨rfl, rfl⟩ (g 10 s - csg g s) (csg g s) (sF (sF σ 25 0) 26 0) rfl (Nat.le_refl _) c4.1 hk0 (by
    rw [Nat.sub_self]; exact ⟨rfl, fun i t ht => by simp [trep] at ht, rfl, rfl⟩)
  refine ⟨σ', b1, fun Φ q => ?_⟩
  unfold wp_X7_differentTerms
  refine nm_e (nm_e ⟨pk_in s 300 (by omega), nm_e ?_⟩)
  rw [nI_clamp (by omega), show (sF (sF σ 25 0) 26 0).2.1 9 s = nI (g 10 s) from c1]
  rw [c5] at q
  have hb := b2 Φ q
  unfold wp_X6_codeStart
  have hc0 : s = 0 → csg g s = 0 := fun z => by unfold csg; rw [if_pos z]
  by_cases e : s = 0
  · refine br_t (by rw [e]; rfl) ⟨g 10 s - csg g s + 1, ?_⟩
    rw [hc0 e] at hb ⊢; exact hb
  · refine br_f (nI_ne0 (by omega) (by omega)) ?_
    rw [nI_sub1 (by omega)]
    refine ⟨pk_in (s - 1) 300 (by omega), ?_⟩
    rw [nI_clamp (by omega), show (sF (sF σ 25 0) 26 0).2.1 9 (s - 1) = nI (csg g s) by
      show σ.2.1 9 (s - 1) = _
      rw [(hP.cd (s - 1) (by omega)).1.1]
      unfold csg
      rw [if_neg e]]
    exact ⟨_, hb⟩
def wt_terms (a : Int32) (σ : S9) (Φ Θ : Int32 → S9 → Prop) : Prop := (σ.1 0 = 0 → Θ 1 σ) ∧ (¬ σ.1 0 = 0 → wp_X6_stepAt a σ (fun r1 σ1 => (r1 = -1 → Θ 1 σ1) ∧ (¬ r1 = -1 → wp_X7_differentTerms r1 σ1 Φ)))
theorem nI_nn {p : Nat} (h : p < 2 ^ 31) : ¬ nI p = (-1 : Int32) := fun e => nI_pos h (by rw [e]; decide)
theorem c_stepAt {σ : S9} {g : GH} {C : AR} {S M pl : Nat} {a : Int32} (hP : PG σ.2.1 C g S M pl) (h4 : σ.1 4 = nI S) {Φ : Int32 → S9 → Prop} (x : Nat) (hx : x ≤ S) (hno : ∀ t, t < x → ¬ nI (g 9 t) = a) (h1 : x < S → nI (g 9 x) = a ∧ Φ (nI x) σ) (h2 : x = S → Φ (-1) σ) : wp_X6_stepAt a σ Φ := by
  have hsl := hP.sl
  unfold wp_X6_stepAt
  refine nm_e ⟨x + 1, ?_⟩
  suffices hh : ∀ d i, x - i = d → i ≤ x → lp_X6_stepAt_b2 Φ (d + 1) a (nI i) σ from hh _ 0 rfl (Nat.zero_le _)
  intro d
  induction d with
  | zero =>
    intro i e1 e2
    have : i = x := by omega
    subst this
    show bd_X6_stepAt_b2 _ _ _ _ _
    unfold bd_X6_stepAt_b2
    rw [h4]
    refine pk_le S i (fun z => h2 (by omega)) (fun z => ⟨pk_in i 300 (by omega), ?_⟩)
    rw [nI_clamp (by omega), (hP.ss i (by omega)).2.1]
    exact br_t (h1 (by omega)).1 (h1 (by omega)).2
  | succ d ih =>
    intro i e1 e2
    show bd_X6_stepAt_b2 _ _ _ _ _
    unfold bd_X6_stepAt_b2
    rw [h4]
    refine pk_le S i (fun z => absurd z (by omega)) (fun z => ⟨pk_in i 300 (by omega), ?_⟩)
    rw [nI_clamp (by omega), (hP.ss i (by omega)).2.1, nI_1]
    exact br_f (hno i (by omega)) (nm_e (ih (i + 1) (by omega) (by omega)))
theorem m_terms {τ : S9} {g : GH} {B : AR} {S M pl : Nat} {a : Int32} (hP : PG B τ.2.1 g S M pl) (h11 : τ.1 11 = nI M) (h10 : τ.1 10 = 1) {Ψ : Int32 → S9 → Prop} (P : Nat → Prop) (u : Nat → Int32) (hu0 : u 0 = -1)
    (hu : ∀ h, h < M → (τ.2.1 10 h = a ∧ ¬ a < 0 ∧ u (h + 1) = nI h) ∨ (¬ (τ.2.1 10 h = a ∧ ¬ a < 0) ∧ u (h + 1) = u h)) (k : wp_X11_terms_b45 Ψ (u M) τ) : wp_X11_terms a τ Ψ := by
  have hml := hP.ml
  unfold wp_X11_terms
  refine nm_e (nm_e ⟨M + 1, ?_⟩)
  suffices hh : ∀ d i, M - i = d → i ≤ M → lp_X11_terms_b4 Ψ (d + 1) a (u i) (nI i) τ by have := hh _ 0 rfl (Nat.zero_le _); rw [hu0] at this; exact this
  intro d
  induction d with
  | zero =>
    intro i e1 e2
    have : i = M := by omega
    subst this
    show bd_X11_terms_b4 _ _ _ _ _ _
    unfold bd_X11_terms_b4
    rw [h11]
    exact pk_le i i (fun _ => k) (fun z => absurd z (by omega))
  | succ d ih =>
    intro i e1 e2
    show bd_X11_terms_b4 _ _ _ _ _ _
    unfold bd_X11_terms_b4
    rw [h11]
    refine pk_le M i (fun z => absurd z (by omega)) (fun z => br_f (by rw [h10]; decide) ⟨pk_in i 1200 (by omega), ?_⟩)
    rw [nI_clamp (by omega), nI_1]
    have hn := ih (i + 1) (by omega) (by omega)
    rcases hu i (by omega) with ⟨q1, q2, q3⟩ | ⟨q1, q2⟩
    · rw [q3] at hn
      exact br_t q1 (br_f q2 (nm_e hn))
    · rw [q2] at hn
      exact br_c (fun z1 => br_c (fun _ => nm_e hn) (fun z2 => absurd ⟨z1, z2⟩ q1)) (fun _ => nm_e hn)
theorem k_terms {σ τ : S9} {lim : Nat} (a : Int32) (h : RR σ τ lim) : OKC lim (wt_terms a σ) (wp_X11_terms a τ) := by
  have h0 := h
  obtain ⟨-, -, inp, hI, hp⟩ := h0
  have b45 : ∀ Ψ : Int32 → S9 → Prop, Ψ 0 (sF τ 0 1) → wp_X11_terms_b45 Ψ (-1) τ := by
    intro Ψ k
    unfold wp_X11_terms_b45 wp_X11_terms_b56
    exact br_t rfl (s_goes0 (br_t rfl k))
  rcases hp with ⟨p1, p2, -⟩ | ⟨g, S, M, pl, np, ⟨p1, p2, p3, p4, p5, p6, p7, p8⟩, -⟩
  · refine Or.inr ⟨1, 0, σ, sF τ 0 1, Or.inl rfl, RR_thrown h 1, rfl, fun Φ Θ k => br_t p1 k, fun Ψ k => ?_⟩
    unfold wp_X11_terms
    refine nm_e (nm_e ⟨1, ?_⟩)
    show bd_X11_terms_b4 _ _ _ _ _ _
    unfold bd_X11_terms_b4
    exact br_c (fun _ => b45 Ψ k) (fun _ => br_t p2 (b45 Ψ k))
  · have hsl := p3.sl
    have hml := p3.ml
    have n0 : ¬ σ.1 0 = 0 := by rw [p1]; decide
    by_cases e : ∃ s, s < S ∧ nI (g 9 s) = a
    · obtain ⟨s, hs, ea⟩ := e
      have h9 := (p3.ss s hs).2.2.2.1
      have hgm := p3.gm s hs
      have uq : ∀ t, t < S → nI (g 9 t) = a → t = s := by
        intro t ht et
        have h9t := (p3.ss t ht).2.2.2.1
        rw [← ea, nI_inj (by omega) (by omega)] at et
        rcases Nat.lt_trichotomy t s with q | q | q
        · have := p3.po t s q hs; omega
        · exact q
        · have := p3.po s t q ht; omega
      obtain ⟨σ', c1, c2⟩ := ct_all p3 hs
      refine Or.inl ⟨τ.2.1 11 (g 0 s), σ', sF τ 0 0, RR_thrown (RR_KF h c1) 0, rfl, fun Φ Θ k => br_f n0 ?_, fun Ψ k => ?_⟩
      · exact c_stepAt p3 p4 s (by omega) (fun t ht q => by have := uq t (by omega) q; omega) (fun _ => ⟨ea, br_f (nI_nn (by omega)) (c2 Φ k)⟩) (fun z => absurd z (by omega))
      · have hna : ¬ a < 0 := by rw [← ea]; exact nI_pos (by omega)
        refine m_terms p3 p8 p2 (fun _ => True) (fun h => if g 0 s < h then nI (g 0 s) else -1) (if_neg (by omega)) (fun h hh => ?_) ?_
        · by_cases q : h = g 0 s
          · subst q
            refine Or.inl ⟨(p3.ss s hs).2.2.1.trans ea, hna, if_pos (by omega)⟩
          · refine Or.inr ⟨fun z => ?_, ?_⟩
            · rcases p3.cp h hh with ⟨t, t1, t2⟩ | t
              · have := z.1
                rw [t2, (p3.ss t t1).2.2.1] at this
                rw [uq t t1 this] at t2
                exact q t2
              · rw [t] at z
                exact z.2 (by rw [← z.1]; decide)
            · by_cases q2 : g 0 s < h
              · rw [if_pos (by omega), if_pos q2]
              · rw [if_neg (by omega), if_neg q2]
        · rw [if_pos (by omega)]
          unfold wp_X11_terms_b45 wp_X11_terms_b56
          refine br_f (nI_nn (by omega)) (s_goes1 (br_f (by decide) ⟨pk_in (g 0 s) 1200 (by omega), ?_⟩))
          rw [nI_clamp (by omega)]; exact k
    · refine Or.inr ⟨1, 0, σ, sF τ 0 1, Or.inl rfl, RR_thrown h 1, rfl, fun Φ Θ k => br_f n0 ?_, fun Ψ k => ?_⟩
      · exact c_stepAt p3 p4 S (Nat.le_refl _) (fun t ht q => e ⟨t, ht, q⟩) (fun z => absurd z (by omega)) (fun _ => br_t rfl k)
      · refine m_terms p3 p8 p2 (fun _ => True) (fun _ => -1) rfl (fun h hh => Or.inr ⟨fun z => ?_, rfl⟩) (b45 Ψ k)
        rcases p3.cp h hh with ⟨t, t1, t2⟩ | t
        · have := z.1
          rw [t2, (p3.ss t t1).2.2.1] at this
          exact e ⟨t, t1, this⟩
        · rw [t] at z
          exact z.2 (by rw [← z.1]; decide)
