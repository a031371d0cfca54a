/-! ===== terms as the reference counts them, and its put ===== -/
abbrev T3 : Type := Int32 × Int32 × Int32
def TTab (c : S9) (ts : List T3) : Prop := c.1 14 = nI ts.length ∧ ∀ (i : Nat) (t : T3), ts[i]? = some t → c.2.1 16 i = t.1 ∧ c.2.1 17 i = t.2.1 ∧ c.2.1 18 i = t.2.2
/-- the place of the first like it, or the list's length -/
def tIx (t : T3) : List T3 → Nat
  | [] => 0
  | x :: l => if x = t then 0 else tIx t l + 1
def tput (s a b : Int32) (ts : List T3) : Nat × List T3 := if s = 35 then (ts.length, ts ++ [(s, a, b)]) else if tIx (s, a, b) ts < ts.length then (tIx (s, a, b) ts, ts) else (ts.length, ts ++ [(s, a, b)])
theorem tIx_le (t : T3) (l : List T3) : tIx t l ≤ l.length := by
  induction l with
  | nil => exact Nat.le_refl _
  | cons x l ih => unfold tIx; split <;> simp <;> omega
theorem tIx_at {t : T3} {l : List T3} (h : tIx t l < l.length) : l[tIx t l]? = some t := by
  induction l with
  | nil => exact absurd h (by simp [tIx])
  | cons x l ih =>
    unfold tIx at h ⊢
    by_cases e : x = t
    · rw [if_pos e]; simp [e]
    · rw [if_neg e] at h ⊢
      simp only [List.length_cons] at h
      simpa using ih (by omega)
theorem tIx_no {t : T3} {l : List T3} {i : Nat} (h : i < tIx t l) : l[i]? ≠ some t := by
  induction l generalizing i with
  | nil => exact absurd h (by simp [tIx])
  | cons x l ih =>
    unfold tIx at h
    by_cases e : x = t
    · rw [if_pos e] at h; exact absurd h (by omega)
    · rw [if_neg e] at h
      cases i with
      | zero => simpa using e
      | succ i => simpa using ih (by omega)
theorem T3_ext {x y : T3} (h1 : x.1 = y.1) (h2 : x.2.1 = y.2.1) (h3 : x.2.2 = y.2.2) : x = y := Prod.ext h1 (Prod.ext h2 h3)
/-- the core with one more term -/
def mTerm (c : S9) (s a b : Int32) (n : Nat) : S9 := sF (sA (sA (sA c 16 (upd (c.2.1 16) n s)) 17 (upd (c.2.1 17) n a)) 18 (upd (c.2.1 18) n b)) 14 (nI (n + 1))
def mTermC (c : S9) (s a b : Int32) (ts : List T3) : S9 := if s = 35 then mTerm c s a b ts.length else if tIx (s, a, b) ts < ts.length then c else mTerm c s a b ts.length
theorem TTab_add {c : S9} {ts : List T3} {s a b : Int32} (h : TTab c ts) : TTab (mTerm c s a b ts.length) (ts ++ [(s, a, b)]) := by
  refine ⟨by rw [List.length_append]; rfl, fun i t ht => ?_⟩
  show upd (c.2.1 16) ts.length s i = _ ∧ upd (c.2.1 17) ts.length a i = _ ∧ upd (c.2.1 18) ts.length b i = _
  by_cases e : i < ts.length
  · rw [List.getElem?_append_left e] at ht
    rw [pk_un (by omega), pk_un (by omega), pk_un (by omega)]
    exact h.2 i t ht
  · have e2 : i = ts.length := by
      have := (List.getElem?_eq_some_iff.mp ht).1
      simp only [List.length_append, List.length_cons, List.length_nil] at this
      omega
    subst e2
    rw [List.getElem?_append_right (Nat.le_refl _), Nat.sub_self] at ht
    have e3 : (s, a, b) = t := by simpa using ht
    rw [← e3, pk_us, pk_us, pk_us]
    exact ⟨rfl, rfl, rfl⟩
theorem TTab_put {c : S9} {ts : List T3} {s a b : Int32} (h : TTab c ts) : TTab (mTermC c s a b ts) (tput s a b ts).2 := by
  unfold mTermC tput
  by_cases e : s = 35
  · rw [if_pos e, if_pos e]; exact TTab_add h
  · rw [if_neg e, if_neg e]
    by_cases e2 : tIx (s, a, b) ts < ts.length
    · rw [if_pos e2, if_pos e2]; exact h
    · rw [if_neg e2, if_neg e2]; exact TTab_add h
theorem s_term60 {c τ : S9} {l : List (Int32 × Int32)} {s a b : Int32} {n : Nat} {Φ : Int32 → S9 → Prop} (h : St c l τ) (hn : c.1 14 = nI n) (hl : n < 400) (k : ∀ τ', St (mTerm c s a b n) l τ' → Φ (nI n) τ') : wp_X11_term_b60 Φ s a b τ := by
  unfold wp_X11_term_b60
  have e14 : τ.1 14 = nI n := by rw [St_1 h (show (14 : Nat) ≠ 5 by decide), hn]
  simp only [forall_eq, sA_1, sF_1, e14, pk_us, nI_clamp (show n < 2 ^ 31 by omega)]
  have hin : vp_in (nI n) 400 := pk_in n 400 hl
  refine ⟨hin, hin, hin, ?_⟩
  rw [nI_1, nI_pred]
  refine k _ ?_
  unfold mTerm
  refine St_sF ?_ (by decide) _
  have r6 : τ.2.1 16 = c.2.1 16 := St_2 h (by decide) (by decide)
  have r7 : τ.2.1 17 = c.2.1 17 := St_2 h (by decide) (by decide)
  have r8 : τ.2.1 18 = c.2.1 18 := St_2 h (by decide) (by decide)
  simp only [sA_21, vup_at, Nat.reduceEqDiff, if_false, ↓reduceIte, r6, r7, r8]
  exact St_sA (St_sA (St_sA h (by decide) (by decide) _) (by decide) (by decide) _) (by decide) (by decide) _
theorem s_term {c : S9} {l : List (Int32 × Int32)} {s a b : Int32} {ts : List T3} (ht : TTab c ts) (hl : ts.length < 400) {τ : S9} {Φ : Int32 → S9 → Prop} (h : St c l τ)
    (k : ∀ τ', St (mTermC c s a b ts) l τ' → Φ (nI (tput s a b ts).1) τ') : wp_X11_term s a b τ Φ := by
  unfold wp_X11_term
  refine nm_e ?_
  have e14 : τ.1 14 = nI ts.length := by rw [St_1 h (show (14 : Nat) ≠ 5 by decide), ht.1]
  by_cases e35 : s = 35
  · refine ⟨1, ?_⟩
    show bd_X11_term_b3 _ _ _ _ _ _ _
    unfold bd_X11_term_b3
    rw [e14]
    have fin : wp_X11_term_b60 Φ s a b τ := s_term60 h ht.1 hl (fun τ' h' => by
      have := k τ' (by unfold mTermC; rw [if_pos e35]; exact h')
      unfold tput at this; rw [if_pos e35] at this; exact this)
    exact br_c (fun _ => fin) (fun _ => br_t e35 fin)
  · have r6 : τ.2.1 16 = c.2.1 16 := St_2 h (by decide) (by decide)
    have r7 : τ.2.1 17 = c.2.1 17 := St_2 h (by decide) (by decide)
    have r8 : τ.2.1 18 = c.2.1 18 := St_2 h (by decide) (by decide)
    suffices hh : ∀ d i, tIx (s, a, b) ts - i = d → i ≤ tIx (s, a, b) ts → lp_X11_term_b3 Φ (d + 1) s a b (nI i) τ from ⟨_, hh _ 0 rfl (Nat.zero_le _)⟩
    have hle := tIx_le (s, a, b) ts
    intro d
    induction d with
    | zero =>
      intro i h1 h2
      have hi : i = tIx (s, a, b) ts := by omega
      show bd_X11_term_b3 _ _ _ _ _ _ _
      unfold bd_X11_term_b3
      rw [e14]
      refine pk_le ts.length i (fun z => ?_) (fun z => br_f e35 ?_)
      · refine s_term60 h ht.1 hl (fun τ' h' => ?_)
        have := k τ' (by unfold mTermC; rw [if_neg e35, if_neg (by omega)]; exact h')
        unfold tput at this; rw [if_neg e35, if_neg (by omega)] at this; exact this
      · have hat : ts[i]? = some (s, a, b) := by rw [hi]; exact tIx_at (by omega)
        obtain ⟨q1, q2, q3⟩ := ht.2 i _ hat
        rw [nI_clamp (by omega), r6, r7, r8]
        have hin : vp_in (nI i) 400 := pk_in i 400 (by omega)
        refine ⟨hin, br_t q1 ⟨hin, br_t q2 ⟨hin, br_t q3 ?_⟩⟩⟩
        have := k τ (by unfold mTermC; rw [if_neg e35, if_pos (by omega)]; exact h)
        unfold tput at this; rw [if_neg e35, if_pos (by omega), ← hi] at this; exact this
    | succ d ih =>
      intro i h1 h2
      show bd_X11_term_b3 _ _ _ _ _ _ _
      unfold bd_X11_term_b3
      rw [e14]
      refine pk_le ts.length i (fun z => absurd z (by omega)) (fun z => br_f e35 ?_)
      have hno := tIx_no (t := (s, a, b)) (l := ts) (i := i) (by omega)
      obtain ⟨t, hat⟩ : ∃ t, ts[i]? = some t := ⟨_, List.getElem?_eq_getElem (by omega)⟩
      obtain ⟨q1, q2, q3⟩ := ht.2 i _ hat
      rw [nI_clamp (by omega), r6, r7, r8]
      have hin : vp_in (nI i) 400 := pk_in i 400 (by omega)
      have nx : ∀ x : Int32, x = nI i + 1 → lp_X11_term_b3 Φ (d + 1) s a b x τ := nm_r (nI_1 i) (ih (i + 1) (by omega) (by omega))
      refine ⟨hin, br_c (fun g1 => ⟨hin, br_c (fun g2 => ⟨hin, br_c (fun g3 => ?_) (fun _ => nx)⟩) (fun _ => nx)⟩) (fun _ => nx)⟩
      refine absurd ?_ hno
      rw [hat]
      exact congrArg some (T3_ext (by rw [← q1]; exact g1) (by rw [← q2]; exact g2) (by rw [← q3]; exact g3))
def lst (f : Nat → Int32) : Nat → List Int32
  | 0 => []
  | n + 1 => f n :: lst f n
theorem lst_len (f : Nat → Int32) (n : Nat) : (lst f n).length = n := by
  induction n with
  | zero => rfl
  | succ n ih => simp [lst, ih]
theorem lst_congr {f f' : Nat → Int32} {n : Nat} (h : ∀ i, i < n → f' i = f i) : lst f' n = lst f n := by
  induction n with
  | zero => rfl
  | succ n ih => simp only [lst, h n (Nat.lt_succ_self n), ih (fun i hi => h i (Nat.lt_succ_of_lt hi))]
theorem lst_push (f : Nat → Int32) (n : Nat) (x : Int32) : lst (upd f n x) (n + 1) = x :: lst f n := by
  show upd f n x n :: lst (upd f n x) n = _
  rw [pk_us, lst_congr (f := f) (fun i hi => pk_un (by omega))]
/-- terms and what waits -/
def TT (c : S9) (ts : List T3) (ws : List Int32) : Prop := TTab c ts ∧ c.1 15 = nI ws.length ∧ lst (c.2.1 19) ws.length = ws
def isAt (m : Int32) : Prop := m = 0 ∨ m = 1 ∨ m = 35
def isUn (m : Int32) : Prop := m = 2 ∨ m = 3
/-- what a mark does -/
noncomputable def tstep (m v : Int32) (s : List T3 × List Int32) : List T3 × List Int32 :=
  @ite _ (isAt m) (Classical.propDecidable _) ((tput m v 0 s.1).2, nI (tput m v 0 s.1).1 :: s.2)
  (@ite _ (isUn m) (Classical.propDecidable _) ((tput m (s.2.headD 0) 0 s.1).2, nI (tput m (s.2.headD 0) 0 s.1).1 :: s.2.tail)
  ((tput m (s.2.tail.headD 0) (s.2.headD 0) s.1).2, nI (tput m (s.2.tail.headD 0) (s.2.headD 0) s.1).1 :: s.2.tail.tail))
/-- nothing has moved but what a put moves -/
def FrP (c c' : S9) : Prop := (∀ k, k ≠ 12 → k ≠ 14 → k ≠ 15 → c'.1 k = c.1 k) ∧ (∀ k, k ≠ 12 → k ≠ 13 → k ≠ 16 → k ≠ 17 → k ≠ 18 → k ≠ 19 → c'.2.1 k = c.2.1 k) ∧ c'.2.2 = c.2.2
def mMark (c : S9) (m v : Int32) (pl : Nat) : S9 := sF (sA (sA c 12 (upd (c.2.1 12) pl m)) 13 (upd (c.2.1 13) pl v)) 12 (nI (pl + 1))
theorem mTermC_fr (c : S9) (s a b : Int32) (ts : List T3) : (∀ k, k ≠ 14 → (mTermC c s a b ts).1 k = c.1 k) ∧ (∀ k, k ≠ 16 → k ≠ 17 → k ≠ 18 → (mTermC c s a b ts).2.1 k = c.2.1 k) ∧ (mTermC c s a b ts).2.2 = c.2.2 := by
  have hm : (∀ k, k ≠ 14 → (mTerm c s a b ts.length).1 k = c.1 k) ∧ (∀ k, k ≠ 16 → k ≠ 17 → k ≠ 18 → (mTerm c s a b ts.length).2.1 k = c.2.1 k) ∧ (mTerm c s a b ts.length).2.2 = c.2.2 := by
    refine ⟨fun k h => pk_un h, fun k h1 h2 h3 => ?_, rfl⟩
    show va_up (va_up (va_up c.2.1 16 _) 17 _) 18 _ k = _
    rw [vup_ne h3, vup_ne h2, vup_ne h1]
  unfold mTermC
  split
  · exact hm
  · split
    · exact ⟨fun _ _ => rfl, fun _ _ _ _ => rfl, rfl⟩
    · exact hm
theorem s_put {c : S9} {m v : Int32} {pl : Nat} {ts : List T3} {ws : List Int32} (hp : c.1 12 = nI pl) (hpl : pl < 3002) (ht : TT c ts ws) (hts : ts.length < 400) (hws : ws.length < 400) (hu : isUn m → 1 ≤ ws.length) (hb : ¬ isAt m → ¬ isUn m → 2 ≤ ws.length) :
    ∃ c', FrP c c' ∧ c'.1 12 = nI (pl + 1) ∧ c'.2.1 12 = upd (c.2.1 12) pl m ∧ c'.2.1 13 = upd (c.2.1 13) pl v ∧ TT c' (tstep m v (ts, ws)).1 (tstep m v (ts, ws)).2 ∧
      ∀ (l : List (Int32 × Int32)) (τ : S9) (Φ : S9 → Prop), St c l τ → (∀ τ', St c' l τ' → Φ τ') → wp_X11_put m v τ Φ := by
  obtain ⟨c1, hc1⟩ : ∃ c1, c1 = mMark c m v pl := ⟨_, rfl⟩
  have ht1 : TTab c1 ts := by rw [hc1]; exact ht.1
  have e15 : c1.1 15 = nI ws.length := by rw [hc1]; exact ht.2.1
  have e19 : c1.2.1 19 = c.2.1 19 := by rw [hc1]; rfl
  have pre : ∀ (l : List (Int32 × Int32)) (τ : S9) (Φ : S9 → Prop), St c l τ → (∀ τ3, St c1 l τ3 → (m = 0 → wp_X11_put_b45 Φ m v τ3) ∧ (¬ m = 0 → (m = 1 → wp_X11_put_b45 Φ m v τ3) ∧ (¬ m = 1 → (m = 35 → wp_X11_put_b45 Φ m v τ3) ∧ (¬ m = 35 → (m = 2 → wp_X11_put_b84 Φ m τ3) ∧ (¬ m = 2 → (m = 3 → wp_X11_put_b84 Φ m τ3) ∧ (¬ m = 3 → ∀ σ4 : S9, σ4 = sF τ3 15 (τ3.1 15 - 1) → vp_in (σ4.1 15 - 1) 400 ∧ vp_in (σ4.1 15) 400 ∧ wp_X11_term m (σ4.2.1 19 (σ4.1 15 - 1).toNatClampNeg) (σ4.2.1 19 (σ4.1 15).toNatClampNeg) σ4 (fun r10 σ5 => vp_in (σ4.1 15 - 1) 400 ∧ ∀ σ6 : S9, σ6 = sA σ5 19 (upd (σ5.2.1 19) (σ4.1 15 - 1).toNatClampNeg r10) → Φ σ6))))))) → wp_X11_put m v τ Φ := by
    intro l τ Φ hτ k
    unfold wp_X11_put
    have e12 : τ.1 12 = nI pl := by rw [St_1 hτ (show (12 : Nat) ≠ 5 by decide), hp]
    have r2 : τ.2.1 12 = c.2.1 12 := St_2 hτ (by decide) (by decide)
    have r3 : τ.2.1 13 = c.2.1 13 := St_2 hτ (by decide) (by decide)
    rw [e12]
    refine ⟨pk_in pl 3002 hpl, nm_e ⟨by show vp_in (τ.1 12) 3002; rw [e12]; exact pk_in pl 3002 hpl, nm_e (nm_e ?_)⟩⟩
    refine k _ ?_
    rw [hc1]
    unfold mMark
    show St _ _ (sF (sA (sA τ 12 (upd (τ.2.1 12) (nI pl).toNatClampNeg m)) 13 (upd (τ.2.1 13) (τ.1 12).toNatClampNeg v)) 12 (τ.1 12 + 1))
    rw [e12, nI_clamp (by omega), nI_1, r2, r3]
    exact St_sF (St_sA (St_sA hτ (by decide) (by decide) _) (by decide) (by decide) _) (by decide) _
  by_cases hat : isAt m
  · -- a number, a name, an input
    obtain ⟨c2, hc2⟩ : ∃ c2, c2 = mTermC c1 m v 0 ts := ⟨_, rfl⟩
    obtain ⟨f1, f2, f3⟩ := mTermC_fr c1 m v 0 ts
    rw [← hc2] at f1 f2 f3
    have ht2 : TTab c2 (tput m v 0 ts).2 := by rw [hc2]; exact TTab_put ht1
    refine ⟨sF (sA c2 19 (upd (c2.2.1 19) ws.length (nI (tput m v 0 ts).1))) 15 (nI (ws.length + 1)), ⟨fun k h1 h2 h3 => ?_, fun k h1 h2 h3 h4 h5 h6 => ?_, ?_⟩, ?_, ?_, ?_, ?_, fun l τ Φ hτ k => pre l τ Φ hτ (fun τ3 h3 => ?_)⟩
    · show upd c2.1 15 _ k = _
      rw [pk_un h3, f1 k h2, hc1]; exact pk_un h1
    · show va_up c2.2.1 19 _ k = _
      rw [vup_ne h6, f2 k h3 h4 h5, hc1]
      show va_up (va_up c.2.1 12 _) 13 _ k = _
      rw [vup_ne h2, vup_ne h1]
    · show c2.2.2 = _
      rw [f3, hc1]; rfl
    · show c2.1 12 = _
      rw [f1 12 (by decide), hc1]; rfl
    · show c2.2.1 12 = _
      rw [f2 12 (by decide) (by decide) (by decide), hc1]; rfl
    · show c2.2.1 13 = _
      rw [f2 13 (by decide) (by decide) (by decide), hc1]; rfl
    · unfold tstep
      rw [if_pos hat]
      refine ⟨ht2, rfl, ?_⟩
      show lst (upd (c2.2.1 19) ws.length _) (ws.length + 1) = _
      rw [lst_push, f2 19 (by decide) (by decide) (by decide), e19, ht.2.2]
    · have fin : wp_X11_put_b45 Φ m v τ3 := by
        unfold wp_X11_put_b45
        refine s_term ht1 hts h3 (fun τ4 h4 => ?_)
        rw [St_1 h3 (show (15 : Nat) ≠ 5 by decide), e15]
        rw [← hc2] at h4
        refine ⟨pk_in _ 400 hws, nm_e (nm_e (k _ ?_))⟩
        rw [nI_clamp (by omega), St_2 h4 (show (19 : Nat) ≠ 4 by decide) (by decide)]
        show St _ _ (sF (sA τ4 19 _) 15 (τ4.1 15 + 1))
        rw [St_1 h4 (show (15 : Nat) ≠ 5 by decide), f1 15 (by decide), e15, nI_1]
        exact St_sF (St_sA h4 (by decide) (by decide) _) (by decide) _
      exact br_c (fun _ => fin) (fun z0 => br_c (fun _ => fin) (fun z1 => br_c (fun _ => fin) (fun z2 => absurd hat (fun q => q.elim z0 (fun q => q.elim z1 z2)))))
  · by_cases hun : isUn m
    · obtain ⟨a, ws', hwa⟩ : ∃ a ws', ws = a :: ws' := by
        cases ws with
        | nil => exact absurd (hu hun) (by simp)
        | cons a ws' => exact ⟨a, ws', rfl⟩
      subst hwa
      have ea : c.2.1 19 ws'.length = a := by
        have := ht.2.2
        have h2 : c.2.1 19 ws'.length :: lst (c.2.1 19) ws'.length = a :: ws' := this
        injection h2
      have eb : lst (c.2.1 19) ws'.length = ws' := by
        have := ht.2.2
        have h2 : c.2.1 19 ws'.length :: lst (c.2.1 19) ws'.length = a :: ws' := this
        injection h2
      obtain ⟨c2, hc2⟩ : ∃ c2, c2 = mTermC c1 m a 0 ts := ⟨_, rfl⟩
      obtain ⟨f1, f2, f3⟩ := mTermC_fr c1 m a 0 ts
      rw [← hc2] at f1 f2 f3
      have ht2 : TTab c2 (tput m a 0 ts).2 := by rw [hc2]; exact TTab_put ht1
      refine ⟨sA c2 19 (upd (c2.2.1 19) ws'.length (nI (tput m a 0 ts).1)), ⟨fun k h1 h2 h3 => ?_, fun k h1 h2 h3 h4 h5 h6 => ?_, ?_⟩, ?_, ?_, ?_, ?_, fun l τ Φ hτ k => pre l τ Φ hτ (fun τ3 h3 => ?_)⟩
      · show c2.1 k = _
        rw [f1 k h2, hc1]; exact pk_un h1
      · show va_up c2.2.1 19 _ k = _
        rw [vup_ne h6, f2 k h3 h4 h5, hc1]
        show va_up (va_up c.2.1 12 _) 13 _ k = _
        rw [vup_ne h2, vup_ne h1]
      · show c2.2.2 = _
        rw [f3, hc1]; rfl
      · show c2.1 12 = _
        rw [f1 12 (by decide), hc1]; rfl
      · show c2.2.1 12 = _
        rw [f2 12 (by decide) (by decide) (by decide), hc1]; rfl
      · show c2.2.1 13 = _
        rw [f2 13 (by decide) (by decide) (by decide), hc1]; rfl
      · unfold tstep
        rw [if_neg hat, if_pos hun]
        refine ⟨ht2, ?_, ?_⟩
        · show c2.1 15 = _
          rw [f1 15 (by decide), e15]; rfl
        · show lst (upd (c2.2.1 19) ws'.length _) (ws'.length + 1) = _
          rw [lst_push, f2 19 (by decide) (by decide) (by decide), e19, eb]; rfl
      · have fin : wp_X11_put_b84 Φ m τ3 := by
          unfold wp_X11_put_b84
          have e : τ3.1 15 - 1 = nI ws'.length := by
            rw [St_1 h3 (show (15 : Nat) ≠ 5 by decide), e15]; exact nI_pred _
          rw [e, nI_clamp (by simp only [List.length_cons] at hws; omega), St_2 h3 (show (19 : Nat) ≠ 4 by decide) (by decide), e19, ea]
          refine ⟨pk_in ws'.length 400 (by simp only [List.length_cons] at hws; omega), s_term ht1 hts h3 (fun τ4 h4 => ⟨pk_in ws'.length 400 (by simp only [List.length_cons] at hws; omega), nm_e (k _ ?_)⟩)⟩
          rw [← hc2] at h4
          rw [St_2 h4 (show (19 : Nat) ≠ 4 by decide) (by decide)]
          exact St_sA h4 (by decide) (by decide) _
        exact br_f (fun z => hat (Or.inl z)) (br_f (fun z => hat (Or.inr (Or.inl z))) (br_f (fun z => hat (Or.inr (Or.inr z))) (br_c (fun _ => fin) (fun z1 => br_c (fun _ => fin) (fun z2 => absurd hun (fun q => q.elim z1 z2))))))
    · obtain ⟨b, a, ws', hwa⟩ : ∃ b a ws', ws = b :: a :: ws' := by
        have h2 := hb hat hun
        cases ws with
        | nil => exact absurd h2 (by simp)
        | cons b ws1 =>
          cases ws1 with
          | nil => exact absurd h2 (by simp)
          | cons a ws' => exact ⟨b, a, ws', rfl⟩
      subst hwa
      have hh : c.2.1 19 (ws'.length + 1) :: c.2.1 19 ws'.length :: lst (c.2.1 19) ws'.length = b :: a :: ws' := ht.2.2
      injection hh with eb hh2
      injection hh2 with ea el
      obtain ⟨c3, hc3⟩ : ∃ c3, c3 = sF c1 15 (nI (ws'.length + 1)) := ⟨_, rfl⟩
      have ht3 : TTab c3 ts := by rw [hc3]; exact ht1
      obtain ⟨c2, hc2⟩ : ∃ c2, c2 = mTermC c3 m a b ts := ⟨_, rfl⟩
      obtain ⟨f1, f2, f3⟩ := mTermC_fr c3 m a b ts
      rw [← hc2] at f1 f2 f3
      have ht2 : TTab c2 (tput m a b ts).2 := by rw [hc2]; exact TTab_put ht3
      refine ⟨sA c2 19 (upd (c2.2.1 19) ws'.length (nI (tput m a b ts).1)), ⟨fun k h1 h2 h3 => ?_, fun k h1 h2 h3 h4 h5 h6 => ?_, ?_⟩, ?_, ?_, ?_, ?_, fun l τ Φ hτ k => pre l τ Φ hτ (fun τ3 h3 => ?_)⟩
      · show c2.1 k = _
        rw [f1 k h2, hc3]
        show upd c1.1 15 _ k = _
        rw [pk_un h3, hc1]; exact pk_un h1
      · show va_up c2.2.1 19 _ k = _
        rw [vup_ne h6, f2 k h3 h4 h5, hc3, hc1]
        show va_up (va_up c.2.1 12 _) 13 _ k = _
        rw [vup_ne h2, vup_ne h1]
      · show c2.2.2 = _
        rw [f3, hc3, hc1]; rfl
      · show c2.1 12 = _
        rw [f1 12 (by decide), hc3, hc1]; rfl
      · show c2.2.1 12 = _
        rw [f2 12 (by decide) (by decide) (by decide), hc3, hc1]; rfl
      · show c2.2.1 13 = _
        rw [f2 13 (by decide) (by decide) (by decide), hc3, hc1]; rfl
      · unfold tstep
        rw [if_neg hat, if_neg hun]
        refine ⟨ht2, ?_, ?_⟩
        · show c2.1 15 = _
          rw [f1 15 (by decide), hc3]; rfl
        · show lst (upd (c2.2.1 19) ws'.length _) (ws'.length + 1) = _
          rw [lst_push, f2 19 (by decide) (by decide) (by decide), hc3]
          show _ :: lst (c1.2.1 19) _ = _
          rw [e19, el]; rfl
      · refine br_f (fun z => hat (Or.inl z)) (br_f (fun z => hat (Or.inr (Or.inl z))) (br_f (fun z => hat (Or.inr (Or.inr z))) (br_f (fun z => hun (Or.inl z)) (br_f (fun z => hun (Or.inr z)) ?_))))
        simp only [List.length_cons] at hws e15
        have e : τ3.1 15 - 1 = nI (ws'.length + 1) := by
          rw [St_1 h3 (show (15 : Nat) ≠ 5 by decide), e15]; exact nI_pred _
        rw [e]
        have h3' : St c3 l (sF τ3 15 (nI (ws'.length + 1))) := by rw [hc3]; exact St_sF h3 (by decide) _
        refine nm_e ?_
        have e1 : (sF τ3 15 (nI (ws'.length + 1))).1 15 = nI (ws'.length + 1) := rfl
        have e2 : (sF τ3 15 (nI (ws'.length + 1))).2.1 19 = c.2.1 19 := by
          show τ3.2.1 19 = _
          rw [St_2 h3 (show (19 : Nat) ≠ 4 by decide) (by decide), e19]
        rw [e1, nI_pred, e2, nI_clamp (by omega), nI_clamp (by omega), ea, eb]
        refine ⟨pk_in ws'.length 400 (by omega), pk_in (ws'.length + 1) 400 (by omega), s_term ht3 hts h3' (fun τ4 h4 => ⟨pk_in ws'.length 400 (by omega), nm_e (k _ ?_)⟩)⟩
        rw [← hc2] at h4
        rw [St_2 h4 (show (19 : Nat) ≠ 4 by decide) (by decide)]
        exact St_sA h4 (by decide) (by decide) _
