/-! ===== the class's expressions: a core and the list of signs that wait ===== -/
def Cs (b : S9) (w : List (Int32 × Int32)) (σ : S9) : Prop := ∃ f g : Nat → Int32, stk f g w.length = w ∧ σ = (upd b.1 13 (nI w.length), va_up (va_up b.2.1 17 f) 18 g, b.2.2)
theorem Cs_13 {b σ : S9} {w : List (Int32 × Int32)} (h : Cs b w σ) : σ.1 13 = nI w.length := by
  obtain ⟨f, g, -, rfl⟩ := h; rfl
theorem Cs_1 {b σ : S9} {w : List (Int32 × Int32)} (h : Cs b w σ) {k : Nat} (hk : k ≠ 13) : σ.1 k = b.1 k := by
  obtain ⟨f, g, -, rfl⟩ := h; exact pk_un hk
theorem Cs_2 {b σ : S9} {w : List (Int32 × Int32)} (h : Cs b w σ) {k : Nat} (h4 : k ≠ 17) (h5 : k ≠ 18) : σ.2.1 k = b.2.1 k := by
  obtain ⟨f, g, -, rfl⟩ := h
  show va_up (va_up b.2.1 17 f) 18 g k = _
  rw [vup_ne h5, vup_ne h4]
theorem Cs_22 {b σ : S9} {w : List (Int32 × Int32)} (h : Cs b w σ) : σ.2.2 = b.2.2 := by
  obtain ⟨f, g, -, rfl⟩ := h; rfl
theorem Cs_sF {b σ : S9} {w : List (Int32 × Int32)} (h : Cs b w σ) {k : Nat} (hk : k ≠ 13) (v : Int32) : Cs (sF b k v) w (sF σ k v) := by
  obtain ⟨f, g, h1, rfl⟩ := h
  refine ⟨f, g, h1, ?_⟩
  unfold sF
  exact Prod.ext (upd_comm _ _ _ (Ne.symm hk)) rfl
theorem Cs_sA {b σ : S9} {w : List (Int32 × Int32)} (h : Cs b w σ) {k : Nat} (h4 : k ≠ 17) (h5 : k ≠ 18) (a : Nat → Int32) : Cs (sA b k a) w (sA σ k a) := by
  obtain ⟨f, g, h1, rfl⟩ := h
  refine ⟨f, g, h1, ?_⟩
  unfold sA
  refine Prod.ext rfl (Prod.ext ?_ rfl)
  show va_up (va_up (va_up b.2.1 17 f) 18 g) k a = va_up (va_up (va_up b.2.1 k a) 17 f) 18 g
  rw [vup_comm _ _ _ (Ne.symm h5), vup_comm _ _ _ (Ne.symm h4)]
theorem Cs_pop {b σ : S9} {w : List (Int32 × Int32)} {x : Int32 × Int32} (h : Cs b (x :: w) σ) : Cs b w (sF σ 13 (nI w.length)) ∧ σ.2.1 17 w.length = x.1 ∧ σ.2.1 18 w.length = x.2 := by
  obtain ⟨f, g, h1, rfl⟩ := h
  have h2 : stk f g (w.length + 1) = x :: w := h1
  have h3 : (f w.length, g w.length) :: stk f g w.length = x :: w := h2
  injection h3 with h4 h5
  refine ⟨⟨f, g, h5, ?_⟩, ?_, ?_⟩
  · unfold sF
    exact Prod.ext (upd_upd _ _ _ _) rfl
  · rw [← h4]; rfl
  · rw [← h4]; rfl
theorem Cs_nil {σ : S9} : Cs σ [] (sF σ 13 0) := ⟨σ.2.1 17, σ.2.1 18, rfl, by
  unfold sF
  refine Prod.ext rfl (Prod.ext ?_ rfl)
  funext j
  show σ.2.1 j = va_up (va_up σ.2.1 17 (σ.2.1 17)) 18 (σ.2.1 18) j
  by_cases e : j = 18
  · rw [e, vup_self]
  · rw [vup_ne e]
    by_cases e2 : j = 17
    · rw [e2, vup_self]
    · rw [vup_ne e2]⟩
theorem Cs_self {σ : S9} {n : Nat} (h : σ.1 13 = nI n) : Cs σ (stk (σ.2.1 17) (σ.2.1 18) n) σ := by
  refine ⟨σ.2.1 17, σ.2.1 18, by rw [stk_len], ?_⟩
  refine Prod.ext ?_ (Prod.ext ?_ rfl)
  · funext j
    show σ.1 j = upd σ.1 13 _ j
    rw [stk_len]
    by_cases e : j = 13
    · rw [e, pk_us, h]
    · rw [pk_un e]
  · funext j
    show σ.2.1 j = va_up (va_up σ.2.1 17 (σ.2.1 17)) 18 (σ.2.1 18) j
    by_cases e : j = 18
    · rw [e, vup_self]
    · rw [vup_ne e]
      by_cases e2 : j = 17
      · rw [e2, vup_self]
      · rw [vup_ne e2]
/-! signs -/
def okS (s : Int32) : Prop := s ∈ ([48, 97, 35, 126, 64, 42, 47, 37, 43, 45, 60, 61] : List Int32)
def mk (s : Int32) : Int32 := if s = 126 then 2 else if s = 64 then 3 else if s = 48 then 0 else if s = 97 then 1 else s
theorem okS_nar {s : Int32} (h : okS s ∨ s = 40) : vp_nar .char s = s := by
  have : ∀ s ∈ ([48, 97, 35, 126, 64, 42, 47, 37, 43, 45, 60, 61, 40] : List Int32), vp_nar .char s = s := by decide +kernel
  refine this s ?_
  rcases h with h | h
  · unfold okS at h; simp only [List.mem_cons, List.not_mem_nil, or_false] at h ⊢
    rcases h with h | h | h | h | h | h | h | h | h | h | h | h <;> simp [h]
  · rw [h]; decide
theorem s_holds {b σ : S9} {w : List (Int32 × Int32)} {s r : Int32} {Φ : Int32 → S9 → Prop} (h : Cs b w σ) (hw : w.length < 120) (hs : vp_nar .char s = s) (k : ∀ σ', Cs b ((s, r) :: w) σ' → Φ 1 σ') : wp_X1_holds s r σ Φ := by
  unfold wp_X1_holds
  have h13 := Cs_13 h
  rw [h13, hs]
  refine pk_eq w.length 120 (fun e => absurd e (by omega)) (fun _ => ⟨pk_in _ 120 hw, nm_e ⟨by show vp_in (σ.1 13) 120; rw [h13]; exact pk_in _ 120 hw, nm_e (nm_e ?_)⟩⟩)
  refine k _ ?_
  obtain ⟨f, g, h1, rfl⟩ := h
  refine ⟨upd f w.length s, upd g w.length r, ?_, ?_⟩
  · show stk _ _ (w.length + 1) = _
    rw [stk_push, h1]
  · unfold sF sA
    refine Prod.ext ?_ (Prod.ext ?_ rfl)
    · show upd (upd b.1 13 (nI w.length)) 13 (nI w.length + 1) = upd b.1 13 (nI (w.length + 1))
      rw [upd_upd, nI_1]
    · show va_up (va_up (va_up (va_up b.2.1 17 f) 18 g) 17 (upd f (nI w.length).toNatClampNeg s)) 18 (upd g (nI w.length).toNatClampNeg r) = va_up (va_up b.2.1 17 (upd f w.length s)) 18 (upd g w.length r)
      rw [nI_clamp (by omega), vup_comm _ _ _ (show (18 : Nat) ≠ 17 by decide), vup_vup, vup_vup]
/-- one more piece of code -/
def cCode (b : S9) (s v : Int32) (S pl : Nat) : S9 := sA (sA (sA b 10 (upd (b.2.1 10) pl s)) 11 (upd (b.2.1 11) pl v)) 9 (upd (b.2.1 9) S (nI (pl + 1)))
theorem s_addCode {b σ : S9} {w : List (Int32 × Int32)} {s v : Int32} {S pl : Nat} {Φ : S9 → Prop} (h : Cs b w σ) (h4 : b.1 4 = nI (S + 1)) (hS : S < 300) (h9 : b.2.1 9 S = nI pl) (hpl : pl < 3000) (hs : vp_nar .char s = s) (k : ∀ σ', Cs (cCode b s v S pl) w σ' → Φ σ') : wp_X6_addCode s v σ Φ := by
  unfold wp_X6_addCode
  have e4 : σ.1 4 = nI (S + 1) := by rw [Cs_1 h (show (4 : Nat) ≠ 13 by decide), h4]
  have r9 : σ.2.1 9 = b.2.1 9 := Cs_2 h (by decide) (by decide)
  have r10 : σ.2.1 10 = b.2.1 10 := Cs_2 h (by decide) (by decide)
  have r11 : σ.2.1 11 = b.2.1 11 := Cs_2 h (by decide) (by decide)
  rw [e4, show nI (S + 1) - 1 = nI S from nI_pred S, hs]
  refine nm_e (br_f (nI_pos (by omega)) ?_)
  have hin : vp_in (nI S) 300 := pk_in S 300 hS
  have hin2 : vp_in (nI pl) 3000 := pk_in pl 3000 hpl
  rw [nI_clamp (by omega), r9, h9]
  refine ⟨hin, pk_le 3000 pl (fun z => absurd z (by omega)) (fun _ => ⟨hin, hin2, nm_e ⟨hin, ?_, nm_e ⟨hin, hin, nm_e (k _ ?_)⟩⟩⟩)⟩
  · show vp_in (σ.2.1 9 S) 3000
    rw [r9, h9]; exact hin2
  · show Cs _ _ (sA (sA (sA σ 10 (upd (σ.2.1 10) (nI pl).toNatClampNeg s)) 11 (upd (σ.2.1 11) (σ.2.1 9 S).toNatClampNeg v)) 9 (upd (σ.2.1 9) S (σ.2.1 9 S + 1)))
    rw [r9, h9, nI_clamp (by omega), nI_1, r10, r11]
    exact Cs_sA (Cs_sA (Cs_sA h (by decide) (by decide) _) (by decide) (by decide) _) (by decide) (by decide) _
/-- what writeDownTo(r) does: code, place, what still waits -/
def wdn (r : Int32) (S : Nat) : S9 → Nat → List (Int32 × Int32) → S9 × Nat × List (Int32 × Int32)
  | b, pl, [] => (b, pl, [])
  | b, pl, (s, k) :: w => if k < r then (b, pl, (s, k) :: w) else wdn r S (cCode b s 0 S pl) (pl + 1) w
theorem s_writeDownTo {r : Int32} {S : Nat} {Φ : S9 → Prop} (hS : S < 300) : ∀ (w : List (Int32 × Int32)) (b : S9) (pl : Nat), b.1 4 = nI (S + 1) → b.2.1 9 S = nI pl → pl + w.length ≤ 3000 → w.length ≤ 120 → (∀ x ∈ w, vp_nar .char x.1 = x.1) →
    (∀ σ', Cs (wdn r S b pl w).1 (wdn r S b pl w).2.2 σ' → Φ σ') → ∀ σ, Cs b w σ → lp_X1_writeDownTo_b0 Φ (w.length + 1) r σ := by
  intro w
  induction w with
  | nil =>
    intro b pl h4 h9 hpl hw hc k σ h
    show bd_X1_writeDownTo_b0 _ _ _ _
    unfold bd_X1_writeDownTo_b0
    rw [Cs_13 h]
    exact br_t (by decide) (k σ h)
  | cons x w ih =>
    intro b pl h4 h9 hpl hw hc k σ h
    obtain ⟨s, kk⟩ := x
    obtain ⟨p1, p2, p3⟩ := Cs_pop h
    simp only [List.length_cons] at hpl hw
    show bd_X1_writeDownTo_b0 _ _ _ _
    unfold bd_X1_writeDownTo_b0
    rw [Cs_13 h]
    simp only [List.length_cons]
    refine br_f (nI_nle (by omega) (by omega)) ?_
    rw [nI_pred, nI_clamp (by omega), p3]
    refine ⟨pk_in w.length 120 (by omega), ?_⟩
    unfold wdn at k
    refine br_c (fun z => ?_) (fun z => nm_e ⟨?_, ?_⟩)
    · rw [if_pos z] at k; exact k σ h
    · exact pk_in w.length 120 (by omega)
    · rw [if_neg z] at k
      show wp_X6_addCode (σ.2.1 17 (nI w.length).toNatClampNeg) 0 _ _
      rw [nI_clamp (by omega), p2]
      refine s_addCode p1 h4 hS h9 (by omega) (hc _ List.mem_cons_self) (fun σ' h' => ?_)
      refine ih (cCode b s 0 S pl) (pl + 1) h4 ?_ (by omega) (by omega) (fun x hx => hc x (List.mem_cons_of_mem _ hx)) k σ' h'
      show upd (b.2.1 9) S _ S = _
      rw [pk_us]
