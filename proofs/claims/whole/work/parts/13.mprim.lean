/-! ===== the reference's compiling: a core and the list of its things ===== -/
theorem vup_ne {α : Type} {f : Nat → α} {k j : Nat} {x : α} (h : j ≠ k) : va_up f k x j = f j := if_neg h
theorem vup_self {α : Type} {f : Nat → α} {k : Nat} {x : α} : va_up f k x k = x := if_pos rfl
def St (c : S9) (l : List (Int32 × Int32)) (τ : S9) : Prop := ∃ f g : Nat → Int32, stk f g l.length = l ∧ τ = (upd c.1 5 (nI l.length), va_up (va_up c.2.1 4 f) 5 g, c.2.2)
theorem St_5 {c τ : S9} {l : List (Int32 × Int32)} (h : St c l τ) : τ.1 5 = nI l.length := by
  obtain ⟨f, g, -, rfl⟩ := h; rfl
theorem St_1 {c τ : S9} {l : List (Int32 × Int32)} (h : St c l τ) {k : Nat} (hk : k ≠ 5) : τ.1 k = c.1 k := by
  obtain ⟨f, g, -, rfl⟩ := h; exact pk_un hk
theorem St_2 {c τ : S9} {l : List (Int32 × Int32)} (h : St c l τ) {k : Nat} (h4 : k ≠ 4) (h5 : k ≠ 5) : τ.2.1 k = c.2.1 k := by
  obtain ⟨f, g, -, rfl⟩ := h
  show va_up (va_up c.2.1 4 f) 5 g k = _
  rw [vup_ne h5, vup_ne h4]
theorem vup_comm {α : Type} (f : Nat → α) {k j : Nat} (x y : α) (h : k ≠ j) : va_up (va_up f k x) j y = va_up (va_up f j y) k x := by
  funext i; simp only [vup_at]; split <;> split <;> first | rfl | (exfalso; omega)
theorem vup_vup {α : Type} (f : Nat → α) (k : Nat) (x y : α) : va_up (va_up f k x) k y = va_up f k y := by
  funext i; simp only [vup_at]; split <;> rfl
theorem St_sF {c τ : S9} {l : List (Int32 × Int32)} (h : St c l τ) {k : Nat} (hk : k ≠ 5) (v : Int32) : St (sF c k v) l (sF τ k v) := by
  obtain ⟨f, g, h1, rfl⟩ := h
  refine ⟨f, g, h1, ?_⟩
  unfold sF
  exact Prod.ext (upd_comm _ _ _ (Ne.symm hk)) rfl
theorem St_sA {c τ : S9} {l : List (Int32 × Int32)} (h : St c l τ) {k : Nat} (h4 : k ≠ 4) (h5 : k ≠ 5) (a : Nat → Int32) : St (sA c k a) l (sA τ k a) := by
  obtain ⟨f, g, h1, rfl⟩ := h
  refine ⟨f, g, h1, ?_⟩
  unfold sA
  refine Prod.ext rfl (Prod.ext ?_ rfl)
  show va_up (va_up (va_up c.2.1 4 f) 5 g) k a = va_up (va_up (va_up c.2.1 k a) 4 f) 5 g
  rw [vup_comm _ _ _ (Ne.symm h5), vup_comm _ _ _ (Ne.symm h4)]
theorem St_self {τ : S9} {n : Nat} (h : τ.1 5 = nI n) : St τ (stk (τ.2.1 4) (τ.2.1 5) n) τ := by
  refine ⟨τ.2.1 4, τ.2.1 5, by rw [stk_len], ?_⟩
  refine Prod.ext ?_ (Prod.ext ?_ rfl)
  · funext j
    show τ.1 j = upd τ.1 5 _ j
    rw [stk_len]
    by_cases e : j = 5
    · rw [e, pk_us, h]
    · rw [pk_un e]
  · funext j
    show τ.2.1 j = va_up (va_up τ.2.1 4 (τ.2.1 4)) 5 (τ.2.1 5) j
    by_cases e : j = 5
    · rw [e, vup_self]
    · rw [vup_ne e]
      by_cases e2 : j = 4
      · rw [e2, vup_self]
      · rw [vup_ne e2]
theorem St_pop {c τ : S9} {l : List (Int32 × Int32)} {x : Int32 × Int32} (h : St c (x :: l) τ) : St c l (sF τ 5 (nI l.length)) ∧ τ.2.1 4 l.length = x.1 ∧ τ.2.1 5 l.length = x.2 := by
  obtain ⟨f, g, h1, rfl⟩ := h
  have h2 : stk f g (l.length + 1) = x :: l := h1
  have h3 : (f l.length, g l.length) :: stk f g l.length = x :: l := h2
  injection h3 with h4 h5
  refine ⟨⟨f, g, h5, ?_⟩, ?_, ?_⟩
  · unfold sF
    exact Prod.ext (upd_upd _ _ _ _) rfl
  · rw [← h4]; rfl
  · rw [← h4]; rfl
theorem s_come {c τ : S9} {l : List (Int32 × Int32)} {t x : Int32} {Φ : S9 → Prop} (h : St c l τ) (hl : l.length < 4000) (k : ∀ τ', St c ((t, x) :: l) τ' → Φ τ') : wp_X11_come t x τ Φ := by
  unfold wp_X11_come
  have h5 := St_5 h
  rw [h5]
  refine ⟨pk_in _ 4000 hl, nm_e ⟨by show vp_in (τ.1 5) 4000; rw [h5]; exact pk_in _ 4000 hl, nm_e (nm_e ?_)⟩⟩
  refine k _ ?_
  obtain ⟨f, g, h1, rfl⟩ := h
  refine ⟨upd f l.length t, upd g l.length x, ?_, ?_⟩
  · show stk _ _ (l.length + 1) = _
    rw [stk_push, h1]
  · unfold sF sA
    refine Prod.ext ?_ (Prod.ext ?_ rfl)
    · show upd (upd c.1 5 (nI l.length)) 5 (nI l.length + 1) = upd c.1 5 (nI (l.length + 1))
      rw [upd_upd, nI_1]
    · show va_up (va_up (va_up (va_up c.2.1 4 f) 5 g) 4 (upd f (nI l.length).toNatClampNeg t)) 5 (upd g (nI l.length).toNatClampNeg x) = va_up (va_up c.2.1 4 (upd f l.length t)) 5 (upd g l.length x)
      rw [nI_clamp (by omega), vup_comm _ _ _ (show (5 : Nat) ≠ 4 by decide), vup_vup, vup_vup]
theorem s_sees {c τ : S9} {l : List (Int32 × Int32)} {a : Int32} {j : Nat} {Φ : Int32 → S9 → Prop} (h : St c l τ) (h3 : c.1 3 = nI j) (hj : j < 3002) (k1 : c.2.1 1 j = 100 + a → Φ 1 τ) (k0 : ¬ c.2.1 1 j = 100 + a → Φ 0 τ) : wp_X11_sees a τ Φ := by
  unfold wp_X11_sees
  rw [St_1 h (show (3 : Nat) ≠ 5 by decide), St_2 h (show (1 : Nat) ≠ 4 by decide) (by decide), h3, nI_clamp (by omega)]
  exact ⟨pk_in j 3002 hj, br_c k1 k0⟩
theorem s_fail {c τ : S9} {l : List (Int32 × Int32)} {j : Nat} {Φ : S9 → Prop} (h : St c l τ) (h4 : c.1 4 = -1) (hj : j < 3002) (k : ∀ τ', St (sF c 4 (c.2.1 3 j)) l τ' → Φ τ') : wp_X11_fail (nI j) τ Φ := by
  unfold wp_X11_fail
  rw [St_1 h (show (4 : Nat) ≠ 5 by decide), St_2 h (show (3 : Nat) ≠ 4 by decide) (by decide), h4, nI_clamp (by omega)]
  exact br_t rfl ⟨pk_in j 3002 hj, nm_e (k _ (St_sF h (by decide) _))⟩
theorem s_fail2 {c τ : S9} {l : List (Int32 × Int32)} {a : Int32} {Φ : S9 → Prop} (h : St c l τ) (h4 : ¬ c.1 4 = -1) (k : ∀ τ', St (sF c 4 (c.1 4)) l τ' → Φ τ') : wp_X11_fail a τ Φ := by
  unfold wp_X11_fail
  rw [St_1 h (show (4 : Nat) ≠ 5 by decide)]
  exact br_f h4 (nm_e (k _ (St_sF h (by decide) _)))
theorem s_expect {c τ : S9} {l : List (Int32 × Int32)} {a : Int32} {j : Nat} {Φ : S9 → Prop} (h : St c l τ) (h3 : c.1 3 = nI j) (h4 : c.1 4 = -1) (hj : j < 3002) (k1 : c.2.1 1 j = 100 + a → ∀ τ', St (sF c 3 (nI (j + 1))) l τ' → Φ τ') (k0 : ¬ c.2.1 1 j = 100 + a → ∀ τ', St (sF c 4 (c.2.1 3 j)) l τ' → Φ τ') : wp_X11_expect a τ Φ := by
  unfold wp_X11_expect
  refine s_sees h h3 hj (fun e => br_f (by decide) (nm_e ?_)) (fun e => br_t rfl ?_)
  · rw [St_1 h (show (3 : Nat) ≠ 5 by decide), h3, nI_1]
    exact k1 e _ (St_sF h (by decide) _)
  · rw [St_1 h (show (3 : Nat) ≠ 5 by decide), h3]
    exact s_fail h h4 hj (k0 e)
/-- one more code -/
def mCode (c : S9) (a t p : Int32) (m : Nat) : S9 := sF (sA (sA (sA (sA (sA (sA c 6 (upd (c.2.1 6) m a)) 7 (upd (c.2.1 7) m t)) 8 (upd (c.2.1 8) m (c.1 12))) 9 (upd (c.2.1 9) m (c.1 12))) 10 (upd (c.2.1 10) m p)) 11 (upd (c.2.1 11) m 0)) 11 (nI (m + 1))
theorem s_code {c τ : S9} {l : List (Int32 × Int32)} {a t p : Int32} {m : Nat} {Φ : Int32 → S9 → Prop} (h : St c l τ) (hm : c.1 11 = nI m) (hl : m < 1200) (k : ∀ τ', St (mCode c a t p m) l τ' → Φ (nI m) τ') : wp_X11_code a t p τ Φ := by
  unfold wp_X11_code
  have e11 : τ.1 11 = nI m := by rw [St_1 h (show (11 : Nat) ≠ 5 by decide), hm]
  have e12 : τ.1 12 = c.1 12 := St_1 h (show (12 : Nat) ≠ 5 by decide)
  simp only [forall_eq, sA_1, sF_1, e11, e12, pk_us, nI_clamp (show m < 2 ^ 31 by omega)]
  have hin : vp_in (nI m) 1200 := pk_in m 1200 hl
  refine ⟨hin, hin, hin, hin, hin, hin, ?_⟩
  rw [nI_1, nI_pred]
  refine k _ ?_
  unfold mCode
  refine St_sF ?_ (by decide) _
  have r6 : τ.2.1 6 = c.2.1 6 := St_2 h (by decide) (by decide)
  have r7 : τ.2.1 7 = c.2.1 7 := St_2 h (by decide) (by decide)
  have r8 : τ.2.1 8 = c.2.1 8 := St_2 h (by decide) (by decide)
  have r9 : τ.2.1 9 = c.2.1 9 := St_2 h (by decide) (by decide)
  have r10 : τ.2.1 10 = c.2.1 10 := St_2 h (by decide) (by decide)
  have r11 : τ.2.1 11 = c.2.1 11 := St_2 h (by decide) (by decide)
  simp only [sA_21, vup_at, Nat.reduceEqDiff, if_false, ↓reduceIte, r6, r7, r8, r9, r10, r11]
  exact St_sA (St_sA (St_sA (St_sA (St_sA (St_sA h (by decide) (by decide) _) (by decide) (by decide) _) (by decide) (by decide) _) (by decide) (by decide) _) (by decide) (by decide) _) (by decide) (by decide) _
/-! the loop over the things -/
def MG (c : S9) (l : List (Int32 × Int32)) (Ψ : Int32 → S9 → Prop) : Prop := ∃ n, ∀ τ, St c l τ → lp_X11_compile_b86 Ψ n τ
theorem mg_head {c τ : S9} {l : List (Int32 × Int32)} {t x : Int32} {Ψ : Int32 → S9 → Prop} {K : S9 → Prop} (h4 : c.1 4 = -1) (hl : l.length < 4000) (h : St c ((t, x) :: l) τ)
    (hi : ∀ τ1, St c l τ1 → (t = 4 ∨ (¬ t < 5 ∧ ¬ 13 < t)) → wp_X11_doInner t x τ1 K) (ho : ∀ τ1, St c l τ1 → ¬ t = 4 → (t < 5 ∨ 13 < t) → wp_X11_doOuter t x τ1 K) : bd_X11_compile_b86 K Ψ τ := by
  obtain ⟨p1, p2, p3⟩ := St_pop h
  have e5 : τ.1 5 = nI (l.length + 1) := St_5 h
  unfold bd_X11_compile_b86
  rw [e5, St_1 h (show (4 : Nat) ≠ 5 by decide), h4]
  refine br_f (nI_nle (by omega) (by omega)) (br_t rfl ?_)
  rw [nI_pred]
  refine nm_e ⟨pk_in _ 4000 hl, nm_r (show (sF τ 5 (nI l.length)).2.1 4 ((sF τ 5 (nI l.length)).1 5).toNatClampNeg = t from by
    show τ.2.1 4 (nI l.length).toNatClampNeg = t
    rw [nI_clamp (by omega), p2]) ?_⟩
  have gi : (t = 4 ∨ (¬ t < 5 ∧ ¬ 13 < t)) → wp_X11_compile_b137 K Ψ t (sF τ 5 (nI l.length)) := by
    intro z
    unfold wp_X11_compile_b137
    refine ⟨pk_in _ 4000 hl, ?_⟩
    show wp_X11_doInner t (τ.2.1 5 (nI l.length).toNatClampNeg) _ _
    rw [nI_clamp (by omega), p3]
    exact hi _ p1 z
  have go : ¬ t = 4 → (t < 5 ∨ 13 < t) → wp_X11_compile_b154 K Ψ t (sF τ 5 (nI l.length)) := by
    intro z1 z2
    unfold wp_X11_compile_b154
    refine ⟨pk_in _ 4000 hl, ?_⟩
    show wp_X11_doOuter t (τ.2.1 5 (nI l.length).toNatClampNeg) _ _
    rw [nI_clamp (by omega), p3]
    exact ho _ p1 z1 z2
  exact br_c (fun z => gi (Or.inl z)) (fun z => br_c (fun z1 => go z (Or.inl z1)) (fun z1 => br_c (fun z2 => go z (Or.inr z2)) (fun z2 => gi (Or.inr ⟨z1, z2⟩))))
theorem mg_in {c c' : S9} {l l' : List (Int32 × Int32)} {t x : Int32} {Ψ : Int32 → S9 → Prop} (h4 : c.1 4 = -1) (hl : l.length < 4000) (ht : t = 4 ∨ (¬ t < 5 ∧ ¬ 13 < t))
    (hs : ∀ (τ : S9) (K : S9 → Prop), St c l τ → (∀ τ', St c' l' τ' → K τ') → wp_X11_doInner t x τ K) (k : MG c' l' Ψ) : MG c ((t, x) :: l) Ψ := by
  obtain ⟨n, hn⟩ := k
  refine ⟨n + 1, fun τ h => ?_⟩
  show bd_X11_compile_b86 (lp_X11_compile_b86 Ψ n) Ψ τ
  refine mg_head h4 hl h (fun τ1 h1 _ => hs τ1 _ h1 (fun τ' h' => hn τ' h')) (fun τ1 _ z1 z2 => ?_)
  rcases ht with e | ⟨e1, e2⟩
  · exact absurd e z1
  · exact absurd z2 (fun z => z.elim e1 e2)
theorem mg_out {c c' : S9} {l l' : List (Int32 × Int32)} {t x : Int32} {Ψ : Int32 → S9 → Prop} (h4 : c.1 4 = -1) (hl : l.length < 4000) (ht : ¬ t = 4 ∧ (t < 5 ∨ 13 < t))
    (hs : ∀ (τ : S9) (K : S9 → Prop), St c l τ → (∀ τ', St c' l' τ' → K τ') → wp_X11_doOuter t x τ K) (k : MG c' l' Ψ) : MG c ((t, x) :: l) Ψ := by
  obtain ⟨n, hn⟩ := k
  refine ⟨n + 1, fun τ h => ?_⟩
  show bd_X11_compile_b86 (lp_X11_compile_b86 Ψ n) Ψ τ
  refine mg_head h4 hl h (fun τ1 _ z => ?_) (fun τ1 h1 _ _ => hs τ1 _ h1 (fun τ' h' => hn τ' h'))
  rcases z with e | ⟨e1, e2⟩
  · exact absurd e ht.1
  · exact absurd ht.2 (fun z => z.elim e1 e2)
/-- the end: no thing is left, or there is a fault -/
theorem mg_end {c : S9} {l : List (Int32 × Int32)} {Ψ : Int32 → S9 → Prop} {m : Nat} (h : l = [] ∨ ¬ c.1 4 = -1) (hl : l.length ≤ 4000) (hm : c.1 11 = nI m) (hm2 : m < 1200)
    (k1 : c.1 4 = -1 → ∀ τ', St (sF (mCode c 13 0 (-1) m) 10 1) l τ' → Ψ 0 τ') (k0 : ¬ c.1 4 = -1 → ∀ τ', St (sF (mCode c 13 0 (-1) m) 10 0) l τ' → Ψ (c.1 4 + 1) τ') : MG c l Ψ := by
  refine ⟨1, fun τ hτ => ?_⟩
  show bd_X11_compile_b86 _ Ψ τ
  have fin : wp_X11_compile_b171 Ψ τ := by
    unfold wp_X11_compile_b171
    refine s_code hτ hm hm2 (fun τ' h' => ?_)
    have e4 : τ'.1 4 = c.1 4 := by rw [St_1 h' (show (4 : Nat) ≠ 5 by decide)]; rfl
    rw [e4]
    unfold wp_X11_compile_b194
    refine br_c (fun z => ⟨⟨rfl, rfl⟩, nm_e (br_f (by show ¬ (1 : Int32) = 0; decide) (k1 z _ (St_sF h' (by decide) _)))⟩) (fun z => ⟨⟨rfl, rfl⟩, nm_e (br_t (by show (0 : Int32) = 0; rfl) ?_)⟩)
    have e5 : (sF τ' 10 0).1 4 = c.1 4 := e4
    rw [e5]
    exact k0 z _ (St_sF h' (by decide) _)
  unfold bd_X11_compile_b86
  rw [St_5 hτ, St_1 hτ (show (4 : Nat) ≠ 5 by decide)]
  rcases h with e | e
  · rw [e]; exact br_t (by decide) fin
  · exact pk_le l.length 0 (fun _ => fin) (fun _ => br_f e fin)
