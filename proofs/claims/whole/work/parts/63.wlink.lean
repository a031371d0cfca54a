/-! ===== the ten calls, as the pure parts have them ===== -/
theorem flip_le (y c : Int32) (T F : Prop) : ((y ≤ c → F) ∧ (¬ y ≤ c → T)) ↔ ((c < y → T) ∧ (¬ c < y → F)) := by
  have h : y ≤ c ↔ ¬ c < y := Int32.not_lt.symm
  constructor
  · rintro ⟨h1, h2⟩
    exact ⟨fun z => h2 (fun q => (h.mp q) z), fun z => h1 (h.mpr z)⟩
  · rintro ⟨h1, h2⟩
    exact ⟨fun z => h2 (h.mp z), fun z => h1 (Decidable.byContradiction fun q => z (h.mpr q))⟩
theorem flip_lt (y c : Int32) (T F : Prop) : ((y < c → F) ∧ (¬ y < c → T)) ↔ ((c ≤ y → T) ∧ (¬ c ≤ y → F)) := by
  have h : y < c ↔ ¬ c ≤ y := Int32.not_le.symm
  constructor
  · rintro ⟨h1, h2⟩
    exact ⟨fun z => h2 (fun q => (h.mp q) z), fun z => h1 (h.mpr z)⟩
  · rintro ⟨h1, h2⟩
    exact ⟨fun z => h2 (h.mp z), fun z => h1 (Decidable.byContradiction fun q => z (h.mpr q))⟩
section WLink
variable {σ : S9} {Φ Θ : Int32 → S9 → Prop}
theorem x_of_feed {a b c d e : Int32} (h : wt_feed a b c d e σ Φ Θ) : wx_X10_feed a b c d e σ Φ Θ := by
  unfold wx_X10_feed
  simp only [forall_eq, flip_le]
  exact h
theorem x_of_give {a : Int32} (h : wt_give a σ Φ Θ) : wx_X10_give a σ Φ Θ := h
theorem x_of_start (h : wt_start σ Φ Θ) : wx_X10_start σ (fun σ1 => Φ 0 σ1) Θ := h
theorem x_of_run {a : Int32} (h : wt_run a σ Φ Θ) : wx_X10_run a σ Φ Θ := by
  unfold wx_X10_run
  simp only [flip_le]
  exact h
theorem x_of_state {a : Int32} (h : wt_state a σ Φ Θ) : wx_X10_state a σ Φ Θ := by
  unfold wx_X10_state
  simp only [flip_le]
  exact h
theorem x_of_output {a : Int32} (h : wt_output a σ Φ Θ) : wx_X10_output a σ Φ Θ := h
theorem x_of_name {a : Int32} (h : wt_name a σ Φ Θ) : wx_X10_name a σ Φ Θ := by
  refine ⟨h.1, fun z => ⟨(h.2 z).1, fun z2 => (flip_lt _ _ _ _).mpr ((h.2 z).2 z2)⟩⟩
theorem x_of_cell {a : Int32} (h : wt_cell a σ Φ Θ) : wx_X10_cell a σ Φ Θ := h
theorem x_of_terms {a : Int32} (h : wt_terms a σ Φ Θ) : wx_X10_terms a σ Φ Θ := ⟨fun z x e => ⟨fun _ => h.1 z, fun n => absurd e n⟩, h.2⟩
theorem x_of_count {a : Int32} (h : wt_count a σ Φ Θ) : wx_X10_count a σ Φ Θ := h
end WLink
theorem updL_same (f : Nat → Int64) (x : Int64) : vp_updL f 0 x 0 = x := by simp [vp_updL]
/-- a call on both sides: what the law's own method answers, what the reference answers -/
theorem okc_use {lim : Nat} {P : (Int32 → S9 → Prop) → (Int32 → S9 → Prop) → Prop} {Q : (Int32 → S9 → Prop) → Prop} (h : OKC lim P Q) (f : Nat → Int64) :
    ∃ (k b : Int32) (σ' τ' : S9) (f' : Nat → Int64), RR σ' τ' lim ∧ τ'.1 0 = k ∧ (k = 0 → f' 0 = b.toInt64) ∧ (∀ Ψ : Int32 → S9 → (Nat → Int64) → Prop, Ψ k σ' f' → P (fun r σ1 => Ψ 0 σ1 (vp_updL f 0 r.toInt64)) (fun j σ1 => Ψ j σ1 f)) ∧ ∀ Φ : Int32 → S9 → Prop, Φ b τ' → Q Φ := by
  rcases h with ⟨r, σ', τ', h1, h2, h3, h4⟩ | ⟨e, r, σ', τ', he, h1, h2, h3, h4⟩
  · exact ⟨0, r, σ', τ', vp_updL f 0 r.toInt64, h1, h2, fun _ => updL_same _ _, fun Ψ k => h3 _ _ k, h4⟩
  · exact ⟨e, r, σ', τ', f, h1, h2, fun z => by rcases he with he | he <;> (rw [he] at z; exact absurd z (by decide)), fun Ψ k => h3 _ _ k, h4⟩
theorem okc_start {σ τ : S9} {lim : Nat} (h : OKC lim (wt_start σ) (fun Ψ => wp_X11_start τ (fun τ' => Ψ 0 τ'))) (f : Nat → Int64) :
    ∃ (k : Int32) (σ' τ' : S9), RR σ' τ' lim ∧ τ'.1 0 = k ∧ (∀ Ψ : Int32 → S9 → (Nat → Int64) → Prop, Ψ k σ' f → wx_X10_start σ (fun σ1 => Ψ 0 σ1 f) (fun j σ1 => Ψ j σ1 f)) ∧ ∀ Φ : S9 → Prop, Φ τ' → wp_X11_start τ Φ := by
  rcases h with ⟨r, σ', τ', h1, h2, h3, h4⟩ | ⟨e, r, σ', τ', he, h1, h2, h3, h4⟩
  · exact ⟨0, σ', τ', h1, h2, fun Ψ k => x_of_start (Φ := fun _ σ1 => Ψ 0 σ1 f) (h3 _ _ k), fun Φ k => h4 (fun _ τ1 => Φ τ1) k⟩
  · exact ⟨e, σ', τ', h1, h2, fun Ψ k => x_of_start (Φ := fun _ σ1 => Ψ 0 σ1 f) (h3 _ _ k), fun Φ k => h4 (fun _ τ1 => Φ τ1) k⟩
