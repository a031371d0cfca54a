/-! ===== expressions are worked out, on both sides ===== -/
def EVf (σ0 σ : S9) : Prop := (∀ k, k ≠ 20 → k ≠ 23 → k ≠ 24 → σ.1 k = σ0.1 k) ∧ (∀ k, k ≠ 23 → σ.2.1 k = σ0.2.1 k) ∧ σ.2.2 = σ0.2.2
def EVg (τ0 τ : S9) : Prop := (∀ k, k ≠ 24 → k ≠ 25 → τ.1 k = τ0.1 k) ∧ (∀ k, k ≠ 25 → τ.2.1 k = τ0.2.1 k) ∧ τ.2.2 = τ0.2.2
theorem EVf.rf (σ : S9) : EVf σ σ := ⟨fun _ _ _ _ => rfl, fun _ _ => rfl, rfl⟩
theorem EVg.rf (σ : S9) : EVg σ σ := ⟨fun _ _ _ => rfl, fun _ _ => rfl, rfl⟩
theorem EVf.sF {σ0 σ : S9} (h : EVf σ0 σ) {k : Nat} (hk : k = 20 ∨ k = 23 ∨ k = 24) (v : Int32) : EVf σ0 (sF σ k v) :=
  ⟨fun j h1 h2 h3 => (pk_un (by omega)).trans (h.1 j h1 h2 h3), h.2.1, h.2.2⟩
theorem EVf.sA {σ0 σ : S9} (h : EVf σ0 σ) (f : Nat → Int32) : EVf σ0 (sA σ 23 f) := ⟨h.1, fun j hj => (vup_ne hj).trans (h.2.1 j hj), h.2.2⟩
theorem EVg.sF {σ0 σ : S9} (h : EVg σ0 σ) {k : Nat} (hk : k = 24 ∨ k = 25) (v : Int32) : EVg σ0 (sF σ k v) :=
  ⟨fun j h1 h2 => (pk_un (by omega)).trans (h.1 j h1 h2), h.2.1, h.2.2⟩
theorem EVg.sA {σ0 σ : S9} (h : EVg σ0 σ) (f : Nat → Int32) : EVg σ0 (sA σ 25 f) := ⟨h.1, fun j hj => (vup_ne hj).trans (h.2.1 j hj), h.2.2⟩
/-- what both have before a step -/
def EB (σ τ : S9) (rd inp : Nat) : Prop := (σ.1 22 = nI rd) ∧ (σ.1 3 = nI inp) ∧ (τ.1 22 = nI inp) ∧ (inp ≤ 300) ∧ (∀ i, i < inp → σ.2.1 1 i = τ.2.1 24 i) ∧ (∀ i, i < 26 → σ.2.1 20 i = τ.2.1 21 i) ∧ (∀ i, i < 100 → σ.2.1 21 i = τ.2.1 22 i)
theorem EB.r22 {σ τ : S9} {rd inp : Nat} (h : EB σ τ rd inp) : σ.1 22 = nI rd := h.1
theorem EB.i3 {σ τ : S9} {rd inp : Nat} (h : EB σ τ rd inp) : σ.1 3 = nI inp := h.2.1
theorem EB.i22 {σ τ : S9} {rd inp : Nat} (h : EB σ τ rd inp) : τ.1 22 = nI inp := h.2.2.1
theorem EB.il {σ τ : S9} {rd inp : Nat} (h : EB σ τ rd inp) : inp ≤ 300 := h.2.2.2.1
theorem EB.ia {σ τ : S9} {rd inp : Nat} (h : EB σ τ rd inp) : ∀ i, i < inp → σ.2.1 1 i = τ.2.1 24 i := h.2.2.2.2.1
theorem EB.nm {σ τ : S9} {rd inp : Nat} (h : EB σ τ rd inp) : ∀ i, i < 26 → σ.2.1 20 i = τ.2.1 21 i := h.2.2.2.2.2.1
theorem EB.ce {σ τ : S9} {rd inp : Nat} (h : EB σ τ rd inp) : ∀ i, i < 100 → σ.2.1 21 i = τ.2.1 22 i := h.2.2.2.2.2.2
def EV (σ0 τ0 : S9) (rd inp h x : Nat) (σ τ : S9) : Prop := EVf σ0 σ ∧ EVg τ0 τ ∧ σ.1 20 = 0 ∧ σ.1 23 = nI x ∧ σ.1 24 = nI h ∧ τ.1 24 = nI (rd + x) ∧ τ.1 25 = nI h ∧ rd + x ≤ inp ∧ ∀ i, i < h → σ.2.1 23 i = τ.2.1 25 i
theorem s_push {σ : S9} {h : Nat} {v : Int32} {Φ : S9 → Prop} (h24 : σ.1 24 = nI h) (hh : h < 60) (k : Φ (sF (sA σ 23 (upd (σ.2.1 23) h v)) 24 (nI (h + 1)))) : wp_X4_push_9 v σ Φ := by
  unfold wp_X4_push_9
  rw [h24]
  refine pk_le 60 h (fun z => absurd z (by omega)) (fun _ => ⟨pk_in h 60 hh, nm_e (nm_e ?_)⟩)
  rw [nI_clamp (by omega), show (sA σ 23 (upd (σ.2.1 23) h v)).1 24 = nI h from h24, nI_1]
  exact k
theorem s_pop {σ : S9} {h : Nat} {Φ : Int32 → S9 → Prop} (h24 : σ.1 24 = nI (h + 1)) (hh : h < 60) (k : Φ (σ.2.1 23 h) (sF σ 24 (nI h))) : wp_X4_pop_9 σ Φ := by
  unfold wp_X4_pop_9
  rw [h24, nI_pred]
  refine br_f (nI_ne0 (by omega) (by omega)) (nm_e ⟨pk_in h 60 hh, ?_⟩)
  show Φ (σ.2.1 23 (nI h).toNatClampNeg) _
  rw [nI_clamp (by omega)]; exact k
/-- a sign brings trouble r -/
def TRB (σ0 τ0 σ τ : S9) (s v : Int32) (r : Int32) : Prop := (r = 2 ∨ r = 3 ∨ r = 4) ∧ ∃ σ' τ' : S9, EVf σ0 σ' ∧ σ'.1 20 = r ∧ EVg τ0 τ' ∧ (∀ Φ : S9 → Prop, Φ σ' → wp_X3_workOutSign s v σ Φ) ∧ ∀ Ψ : Int32 → S9 → Prop, Ψ r τ' → wp_X11_work (mk s) v τ Ψ
def GOE (σ0 τ0 σ τ : S9) (rd inp h : Nat) (s v : Int32) : Prop := ∃ (x' : Nat) (σ' τ' : S9), EV σ0 τ0 rd inp (hstep (mk s) h) x' σ' τ' ∧ (∀ Φ : S9 → Prop, Φ σ' → wp_X3_workOutSign s v σ Φ) ∧ ∀ Ψ : Int32 → S9 → Prop, Ψ 0 τ' → wp_X11_work (mk s) v τ Ψ
theorem s_cellC {σ : S9} {Φ : Int32 → S9 → Prop} {x : Int32} (h1 : (∃ p : Nat, p < 100 ∧ x = nI p) → Φ 1 σ) (h0 : ¬ vp_in x 100 → (x < 0 ∨ 100 ≤ x) → Φ 0 σ) : wp_X10_isCell x σ Φ ∧ wp_X11_isCell x σ Φ := by
  have key : (x < 0 → Φ 0 σ) ∧ (¬ x < 0 → (100 ≤ x → Φ 0 σ) ∧ (¬ 100 ≤ x → Φ 1 σ)) := by
    refine br_c (fun z => h0 ?_ (Or.inl z)) (fun z => br_c (fun z2 => h0 ?_ (Or.inr z2)) (fun z2 => h1 ?_))
    · intro y
      obtain ⟨j, hj, e⟩ := nz_in y (by omega)
      rw [e] at z
      exact nI_pos (by omega) z
    · intro y
      obtain ⟨j, hj, e⟩ := nz_in y (by omega)
      rw [e, show (100 : Int32) = nI 100 from rfl, nI_leI (by omega) (by omega)] at z2
      omega
    · rcases pk_ix x (n := 100) (by omega) with q | q | ⟨j, hj, e⟩
      · exact absurd q z
      · exact absurd q z2
      · exact ⟨j, hj, e⟩
  exact ⟨key, key⟩
theorem ev_un {σ0 τ0 σ τ : S9} {rd inp h x : Nat} {v : Int32} (hE : EV σ0 τ0 rd inp (h + 1) x σ τ) : EV σ0 τ0 rd inp (h + 1) x (sF (sA (sF σ 24 (nI h)) 23 (upd (σ.2.1 23) h v)) 24 (nI (h + 1))) (sA τ 25 (upd (τ.2.1 25) h v)) := by
  obtain ⟨e1, e2, e3, e4, e5, e6, e7, e8, e9⟩ := hE
  refine ⟨((e1.sF (Or.inr (Or.inr rfl)) _).sA _).sF (Or.inr (Or.inr rfl)) _, e2.sA _, e3, e4, rfl, e6, e7, e8, fun i hi => ?_⟩
  show upd (σ.2.1 23) h v i = upd (τ.2.1 25) h v i
  by_cases e : i = h
  · rw [e, pk_us, pk_us]
  · rw [pk_un e, pk_un e]; exact e9 i (by omega)
theorem joined_both {s a b : Int32} (hs : s = 42 ∨ s = 47 ∨ s = 37 ∨ s = 43 ∨ s = 45 ∨ s = 60 ∨ s = 61) (hz : ¬ ((s = 47 ∨ s = 37) ∧ b = 0)) : ∃ r : Int32, (∀ (σ : S9) (Φ : Int32 → S9 → Prop), Φ r σ → wp_X3_joined s a b σ Φ) ∧ ∀ (τ : S9) (Ψ : Int32 → S9 → Prop), Ψ r τ → wp_X11_joinedValue s a b τ Ψ := by
  rcases hs with rfl | rfl | rfl | rfl | rfl | rfl | rfl
  · refine ⟨a * b, fun σ Φ k => ?_, fun τ Ψ k => ?_⟩
    · unfold wp_X3_joined; exact br_f (by decide) (br_t rfl k)
    · unfold wp_X11_joinedValue; exact br_f (by decide) (br_t rfl k)
  · have hb : ¬ b = 0 := fun z => hz ⟨Or.inl rfl, z⟩
    refine ⟨a / b, fun σ Φ k => ?_, fun τ Ψ k => ?_⟩
    · unfold wp_X3_joined; exact br_f (by decide) (br_f (by decide) (br_f (by decide) (br_f (by decide) (br_t rfl (br_f hb ⟨hb, k⟩)))))
    · unfold wp_X11_joinedValue; exact br_f (by decide) (br_f (by decide) (br_f (by decide) (br_f (by decide) (br_t rfl ⟨hb, k⟩))))
  · have hb : ¬ b = 0 := fun z => hz ⟨Or.inr rfl, z⟩
    refine ⟨a - a / b * b, fun σ Φ k => ?_, fun τ Ψ k => ?_⟩
    · unfold wp_X3_joined; exact br_t rfl (br_f hb ⟨hb, k⟩)
    · unfold wp_X11_joinedValue; exact br_t rfl ⟨hb, k⟩
  · refine ⟨a + b, fun σ Φ k => ?_, fun τ Ψ k => ?_⟩
    · unfold wp_X3_joined; exact br_f (by decide) (br_f (by decide) (br_t rfl k))
    · unfold wp_X11_joinedValue; exact br_f (by decide) (br_f (by decide) (br_t rfl k))
  · refine ⟨a - b, fun σ Φ k => ?_, fun τ Ψ k => ?_⟩
    · unfold wp_X3_joined; exact br_f (by decide) (br_f (by decide) (br_f (by decide) (br_t rfl k)))
    · unfold wp_X11_joinedValue; exact br_f (by decide) (br_f (by decide) (br_f (by decide) (br_t rfl k)))
  · refine ⟨if b ≤ a then 0 else 1, fun σ Φ k => ?_, fun τ Ψ k => ?_⟩
    · unfold wp_X3_joined; refine br_f (by decide) (br_f (by decide) (br_f (by decide) (br_f (by decide) (br_f (by decide) (br_t rfl (br_c (fun z => ?_) (fun z => ?_)))))))
      · rw [if_pos z] at k; exact k
      · rw [if_neg z] at k; exact k
    · unfold wp_X11_joinedValue; refine br_f (by decide) (br_f (by decide) (br_f (by decide) (br_f (by decide) (br_f (by decide) (br_t rfl (br_c (fun z => ?_) (fun z => ?_)))))))
      · rw [if_pos z] at k; exact k
      · rw [if_neg z] at k; exact k
  · refine ⟨if a = b then 1 else 0, fun σ Φ k => ?_, fun τ Ψ k => ?_⟩
    · unfold wp_X3_joined; refine br_f (by decide) (br_f (by decide) (br_f (by decide) (br_f (by decide) (br_f (by decide) (br_f (by decide) (br_c (fun z => ?_) (fun z => ?_)))))))
      · rw [if_pos z] at k; exact k
      · rw [if_neg z] at k; exact k
    · unfold wp_X11_joinedValue; refine br_f (by decide) (br_f (by decide) (br_f (by decide) (br_f (by decide) (br_f (by decide) (br_f (by decide) (br_c (fun z => ?_) (fun z => ?_)))))))
      · rw [if_pos z] at k; exact k
      · rw [if_neg z] at k; exact k
theorem ev_bin {σ0 τ0 σ τ : S9} {rd inp h x : Nat} {s v : Int32} (hE : EV σ0 τ0 rd inp (h + 2) x σ τ) (hh : h + 2 ≤ 60) (hs : s = 42 ∨ s = 47 ∨ s = 37 ∨ s = 43 ∨ s = 45 ∨ s = 60 ∨ s = 61) : GOE σ0 τ0 σ τ rd inp (h + 2) s v ∨ ∃ r, TRB σ0 τ0 σ τ s v r := by
  obtain ⟨e1, e2, e3, e4, e5, e6, e7, e8, e9⟩ := hE
  have hmk : mk s = s ∧ hstep (mk s) (h + 2) = h + 1 := by
    have hm : mk s = s := by rcases hs with rfl | rfl | rfl | rfl | rfl | rfl | rfl <;> rfl
    refine ⟨hm, ?_⟩
    rw [hm]
    unfold hstep
    rw [if_neg (by unfold isAt; rcases hs with rfl | rfl | rfl | rfl | rfl | rfl | rfl <;> decide), if_neg (by unfold isUn; rcases hs with rfl | rfl | rfl | rfl | rfl | rfl | rfl <;> decide)]
    rfl
  have hws : ∀ Φ : S9 → Prop, wp_X3_join s σ (fun σ7 => Φ σ7) → wp_X3_workOutSign s v σ Φ := by
    intro Φ q
    unfold wp_X3_workOutSign
    rcases hs with rfl | rfl | rfl | rfl | rfl | rfl | rfl <;> exact br_f (by decide) (br_f (by decide) (br_f (by decide) (br_f (by decide) (br_f (by decide) q))))
  have hwm : ∀ Ψ : Int32 → S9 → Prop, ((s = (47 : Int32) → wp_X11_work_b209 Ψ s (sF τ 25 (nI (h + 1)))) ∧ (¬ s = (47 : Int32) → (s = (37 : Int32) → wp_X11_work_b209 Ψ s (sF τ 25 (nI (h + 1)))) ∧ (¬ s = (37 : Int32) → wp_X11_work_b223 Ψ s (sF τ 25 (nI (h + 1)))))) → wp_X11_work (mk s) v τ Ψ := by
    intro Ψ q
    rw [hmk.1]
    unfold wp_X11_work
    rw [e7, nI_pred]
    rcases hs with rfl | rfl | rfl | rfl | rfl | rfl | rfl <;> exact br_f (by decide) (br_t (by decide) (br_f (by decide) (br_f (by decide) (nm_e q))))
  have hv1 := e9 (h + 1) (by omega)
  have hv0 := e9 h (by omega)
  have hcl : ∀ Φ : S9 → Prop, (∀ σ2, σ2 = sF (sF σ 24 (nI (h + 1))) 24 (nI h) → (σ.2.1 23 (h + 1) = 0 → (s = (47 : Int32) → ∀ σ5 : S9, σ5 = sF σ2 20 (2 : Int32) → Φ σ5) ∧ (¬ s = (47 : Int32) → (s = (37 : Int32) → ∀ σ8 : S9, σ8 = sF σ2 20 (2 : Int32) → Φ σ8) ∧ (¬ s = (37 : Int32) → wp_X3_joined s (σ.2.1 23 h) (σ.2.1 23 (h + 1)) σ2 (fun r7 σ6 => wp_X4_push_9 r7 σ6 (fun σ7 => Φ σ7))))) ∧ (¬ σ.2.1 23 (h + 1) = 0 → wp_X3_joined s (σ.2.1 23 h) (σ.2.1 23 (h + 1)) σ2 (fun r4 σ3 => wp_X4_push_9 r4 σ3 (fun σ4 => Φ σ4)))) → wp_X3_join s σ (fun σ7 => Φ σ7) := by
    intro Φ q
    unfold wp_X3_join
    refine s_pop (h := h + 1) e5 (by omega) (s_pop (h := h) rfl (by omega) ?_)
    exact q _ rfl
  by_cases hz : (s = 47 ∨ s = 37) ∧ σ.2.1 23 (h + 1) = 0
  · refine Or.inr ⟨2, Or.inl rfl, sF (sF (sF σ 24 (nI (h + 1))) 24 (nI h)) 20 2, sF τ 25 (nI (h + 1)), ((e1.sF (Or.inr (Or.inr rfl)) _).sF (Or.inr (Or.inr rfl)) _).sF (Or.inl rfl) _, rfl, e2.sF (Or.inr rfl) _, fun Φ k => hws Φ (hcl Φ (fun σ2 hσ2 => br_t hz.2 ?_)), fun Ψ k => hwm Ψ ?_⟩
    · have hk : ∀ σ5, σ5 = sF σ2 20 2 → Φ σ5 := fun σ5 h5 => by
        rw [h5, hσ2]
        exact k
      rcases hz.1 with e | e
      · exact br_t e hk
      · exact br_f (by rw [e]; decide) (br_t e hk)
    · have hk : wp_X11_work_b209 Ψ s (sF τ 25 (nI (h + 1))) := by
        unfold wp_X11_work_b209
        rw [show (sF τ 25 (nI (h + 1))).1 25 = nI (h + 1) from rfl, nI_clamp (by omega)]
        refine ⟨pk_in (h + 1) 400 (by omega), br_t ?_ k⟩
        show τ.2.1 25 (h + 1) = 0
        rw [← hv1]; exact hz.2
      rcases hz.1 with e | e
      · exact br_t e hk
      · exact br_f (by rw [e]; decide) (br_t e hk)
  · obtain ⟨r, hr1, hr2⟩ := joined_both (a := σ.2.1 23 h) hs hz
    refine Or.inl ⟨x, sF (sA (sF (sF σ 24 (nI (h + 1))) 24 (nI h)) 23 (upd (σ.2.1 23) h r)) 24 (nI (h + 1)), sA (sF τ 25 (nI (h + 1))) 25 (upd (τ.2.1 25) h r), ?_, fun Φ k => hws Φ (hcl Φ (fun σ2 hσ2 => ?_)), fun Ψ k => hwm Ψ ?_⟩
    · rw [hmk.2]
      refine ⟨(((e1.sF (Or.inr (Or.inr rfl)) _).sF (Or.inr (Or.inr rfl)) _).sA _).sF (Or.inr (Or.inr rfl)) _, (e2.sF (Or.inr rfl) _).sA _, e3, e4, rfl, e6, rfl, e8, fun i hi => ?_⟩
      show upd (σ.2.1 23) h r i = upd (τ.2.1 25) h r i
      by_cases e : i = h
      · rw [e, pk_us, pk_us]
      · rw [pk_un e, pk_un e]; exact e9 i (by omega)
    · have go : wp_X3_joined s (σ.2.1 23 h) (σ.2.1 23 (h + 1)) σ2 (fun r4 σ3 => wp_X4_push_9 r4 σ3 (fun σ4 => Φ σ4)) := by
        refine hr1 _ _ ?_
        rw [hσ2]
        exact s_push (h := h) rfl (by omega) k
      exact br_c (fun z => br_c (fun e => absurd ⟨Or.inl e, z⟩ hz) (fun _ => br_c (fun e => absurd ⟨Or.inr e, z⟩ hz) (fun _ => go))) (fun _ => go)
    · have go : wp_X11_work_b223 Ψ s (sF τ 25 (nI (h + 1))) := by
        unfold wp_X11_work_b223
        rw [show (sF τ 25 (nI (h + 1))).1 25 = nI (h + 1) from rfl, nI_pred, nI_clamp (by omega), nI_clamp (by omega)]
        refine ⟨pk_in h 400 (by omega), pk_in (h + 1) 400 (by omega), ?_⟩
        show wp_X11_joinedValue s (τ.2.1 25 h) (τ.2.1 25 (h + 1)) _ _
        rw [← hv0, ← hv1]
        exact hr2 _ _ ⟨pk_in h 400 (by omega), nm_e k⟩
      have go2 : wp_X11_work_b209 Ψ s (sF τ 25 (nI (h + 1))) ∨ ¬ (s = 47 ∨ s = 37) := by
        by_cases e : s = 47 ∨ s = 37
        · refine Or.inl ?_
          unfold wp_X11_work_b209
          rw [show (sF τ 25 (nI (h + 1))).1 25 = nI (h + 1) from rfl, nI_clamp (by omega)]
          refine ⟨pk_in (h + 1) 400 (by omega), br_f (fun z => hz ⟨e, ?_⟩) go⟩
          rw [hv1]; exact z
        · exact Or.inr e
      refine br_c (fun e => go2.resolve_right (fun y => y (Or.inl e))) (fun _ => br_c (fun e => go2.resolve_right (fun y => y (Or.inr e))) (fun _ => go))
theorem neg0 (x : Int32) : (0 : Int32) - x = -x := by
  rw [Int32.sub_eq_add_neg, Int32.zero_add]
theorem ev_sign {σ0 τ0 σ τ : S9} {rd inp h x : Nat} {s v : Int32} (hB : EB σ0 τ0 rd inp) (hE : EV σ0 τ0 rd inp h x σ τ) (hs : okS s) (hv : s = 97 → ∃ p : Nat, p < 26 ∧ v = nI p) (hn : need (mk s) h) (h60 : hstep (mk s) h ≤ 60) (hh : h ≤ 60) : GOE σ0 τ0 σ τ rd inp h s v ∨ ∃ r, TRB σ0 τ0 σ τ s v r := by
  have hE0 := hE
  obtain ⟨e1, e2, e3, e4, e5, e6, e7, e8, e9⟩ := hE
  have push : ∀ (a : Int32) (y : Nat) (σ1 τ1 : S9), σ1 = sF (sA σ 23 (upd (σ.2.1 23) h a)) 24 (nI (h + 1)) → τ1 = sF (sA τ 25 (upd (τ.2.1 25) h a)) 25 (nI (h + 1)) → EV σ0 τ0 rd inp (h + 1) x σ1 τ1 := by
    intro a y σ1 τ1 hσ1 hτ1
    subst hσ1; subst hτ1
    refine ⟨(e1.sA _).sF (Or.inr (Or.inr rfl)) _, (e2.sA _).sF (Or.inr rfl) _, e3, e4, rfl, e6, rfl, e8, fun i hi => ?_⟩
    show upd (σ.2.1 23) h a i = upd (τ.2.1 25) h a i
    by_cases e : i = h
    · rw [e, pk_us, pk_us]
    · rw [pk_un e, pk_un e]; exact e9 i (by omega)
  unfold okS at hs
  simp only [List.mem_cons, List.not_mem_nil, or_false] at hs
  have bin : (s = 42 ∨ s = 47 ∨ s = 37 ∨ s = 43 ∨ s = 45 ∨ s = 60 ∨ s = 61) → GOE σ0 τ0 σ τ rd inp h s v ∨ ∃ r, TRB σ0 τ0 σ τ s v r := by
    intro hb
    have hm : mk s = s := by rcases hb with rfl | rfl | rfl | rfl | rfl | rfl | rfl <;> rfl
    have := hn.2 (by rw [hm]; unfold isAt; rcases hb with rfl | rfl | rfl | rfl | rfl | rfl | rfl <;> decide) (by rw [hm]; unfold isUn; rcases hb with rfl | rfl | rfl | rfl | rfl | rfl | rfl <;> decide)
    obtain ⟨h', rfl⟩ : ∃ h', h = h' + 2 := ⟨h - 2, by omega⟩
    exact ev_bin hE0 hh hb
  have hat : ∀ m : Int32, isAt m → hstep m h = h + 1 := fun m hm => by unfold hstep; rw [if_pos hm]
  rcases hs with rfl | rfl | rfl | rfl | rfl | q | q | q | q | q | q | q
  · -- a number
    have hst : hstep (mk 48) h = h + 1 := hat _ (Or.inl rfl)
    rw [hst] at h60
    refine Or.inl ⟨x, _, _, by rw [hst]; exact push v 0 _ _ rfl rfl, fun Φ k => ?_, fun Ψ k => ?_⟩
    · unfold wp_X3_workOutSign
      exact br_f (by decide) (br_t rfl (s_push e5 (by omega) k))
    · show wp_X11_work 0 v τ Ψ
      unfold wp_X11_work
      refine br_f (by decide) (br_f (by decide) (br_t rfl ?_))
      unfold wp_X11_work_b87
      rw [e7]
      refine ⟨pk_in h 400 (by omega), nm_e (nm_e ?_)⟩
      rw [nI_clamp (by omega), show (sA τ 25 (upd (τ.2.1 25) h v)).1 25 = nI h from e7, nI_1]
      exact k
  · -- a name
    obtain ⟨p, hp, hpv⟩ := hv rfl
    have hst : hstep (mk 97) h = h + 1 := hat _ (Or.inr (Or.inl rfl))
    rw [hst] at h60
    have hnm : σ.2.1 20 p = τ.2.1 21 p := by rw [e1.2.1 20 (by decide), e2.2.1 21 (by decide)]; exact hB.nm p hp
    refine Or.inl ⟨x, _, _, by rw [hst]; exact push (σ.2.1 20 p) 0 _ _ rfl rfl, fun Φ k => ?_, fun Ψ k => ?_⟩
    · unfold wp_X3_workOutSign
      refine br_f (by decide) (br_f (by decide) (br_f (by decide) (br_t rfl ?_)))
      rw [hpv, nI_clamp (by omega)]
      exact ⟨pk_in p 26 hp, s_push e5 (by omega) k⟩
    · show wp_X11_work 1 v τ Ψ
      unfold wp_X11_work
      refine br_f (by decide) (br_f (by decide) (br_f (by decide) ?_))
      unfold wp_X11_work_b87
      rw [e7, hpv, nI_clamp (show p < 2 ^ 31 by omega), ← hnm]
      refine ⟨pk_in p 26 hp, pk_in h 400 (by omega), nm_e (nm_e ?_)⟩
      rw [nI_clamp (by omega), show (sA τ 25 (upd (τ.2.1 25) h (σ.2.1 20 p))).1 25 = nI h from e7, nI_1]
      exact k
  · -- input
    have hst : hstep (mk 35) h = h + 1 := hat _ (Or.inr (Or.inr rfl))
    rw [hst] at h60
    have il := hB.il
    have q22 : σ.1 22 = nI rd := (e1.1 22 (by decide) (by decide) (by decide)).trans hB.r22
    have q3 : σ.1 3 = nI inp := (e1.1 3 (by decide) (by decide) (by decide)).trans hB.i3
    have t22 : τ.1 22 = nI inp := (e2.1 22 (by decide) (by decide)).trans hB.i22
    by_cases hi : rd + x = inp
    · refine Or.inr ⟨4, Or.inr (Or.inr rfl), sF σ 20 4, τ, e1.sF (Or.inl rfl) _, rfl, e2, fun Φ k => ?_, fun Ψ k => ?_⟩
      · unfold wp_X3_workOutSign wp_X3_read
        refine br_t rfl (nm_e ?_)
        rw [q22, e4, q3, nI_add]
        exact pk_le inp (rd + x) (fun _ => nm_e k) (fun z => absurd z (by omega))
      · show wp_X11_work 35 v τ Ψ
        unfold wp_X11_work
        refine br_t rfl ?_
        rw [e6, t22, hi]
        exact br_t rfl k
    · have hia : σ.2.1 1 (rd + x) = τ.2.1 24 (rd + x) := by rw [e1.2.1 1 (by decide), e2.2.1 24 (by decide)]; exact hB.ia _ (by omega)
      obtain ⟨p1, p2, p3, p4, p5, p6, p7, p8, p9⟩ := push (σ.2.1 1 (rd + x)) 0 _ _ rfl rfl
      refine Or.inl ⟨x + 1, sF (sF (sA σ 23 (upd (σ.2.1 23) h (σ.2.1 1 (rd + x)))) 24 (nI (h + 1))) 23 (nI (x + 1)), sF (sF (sA τ 25 (upd (τ.2.1 25) h (σ.2.1 1 (rd + x)))) 24 (nI (rd + x + 1))) 25 (nI (h + 1)), ?_, fun Φ k => ?_, fun Ψ k => ?_⟩
      · rw [hst]
        exact ⟨p1.sF (Or.inr (Or.inl rfl)) _, ((e2.sA _).sF (Or.inl rfl) _).sF (Or.inr rfl) _, p3, rfl, rfl, rfl, rfl, by omega, p9⟩
      · unfold wp_X3_workOutSign wp_X3_read
        refine br_t rfl (nm_e ?_)
        rw [q22, e4, q3, nI_add, nI_clamp (by omega)]
        refine pk_le inp (rd + x) (fun z => absurd z (by omega)) (fun _ => ⟨pk_in (rd + x) 300 (by omega), s_push e5 (by omega) (nm_e ?_)⟩)
        rw [show (sF (sA σ 23 (upd (σ.2.1 23) h (σ.2.1 1 (rd + x)))) 24 (nI (h + 1))).1 23 = nI x from e4, nI_1]
        exact k
      · show wp_X11_work 35 v τ Ψ
        unfold wp_X11_work
        refine br_t rfl ?_
        rw [e6, t22, e7, nI_clamp (by omega), nI_clamp (by omega), ← hia]
        refine pk_eq (rd + x) inp (fun z => absurd z hi) (fun _ => ⟨pk_in (rd + x) 300 (by omega), pk_in h 400 (by omega), nm_e (nm_e (nm_e ?_))⟩)
        rw [show (sA τ 25 (upd (τ.2.1 25) h (σ.2.1 1 (rd + x)))).1 24 = nI (rd + x) from e6, nI_1, show (sF (sA τ 25 (upd (τ.2.1 25) h (σ.2.1 1 (rd + x)))) 24 (nI (rd + x + 1))).1 25 = nI h from e7, nI_1]
        exact k
  · -- a minus ahead
    have hu : isUn (mk 126) := Or.inl rfl
    have h1 := hn.1 hu
    obtain ⟨h', rfl⟩ : ∃ h', h = h' + 1 := ⟨h - 1, by omega⟩
    have hst : hstep (mk 126) (h' + 1) = h' + 1 := by unfold hstep; rw [if_neg (by unfold isAt; decide), if_pos hu]
    have hv1 := e9 h' (by omega)
    refine Or.inl ⟨x, _, _, by rw [hst]; exact ev_un (v := -(σ.2.1 23 h')) hE0, fun Φ k => ?_, fun Ψ k => ?_⟩
    · unfold wp_X3_workOutSign
      refine br_f (by decide) (br_f (by decide) (br_f (by decide) (br_f (by decide) (br_t rfl (s_pop e5 (by omega) (s_push (h := h') rfl (by omega) k))))))
    · show wp_X11_work 2 v τ Ψ
      unfold wp_X11_work
      refine br_f (by decide) (br_t (by decide) (br_t rfl ?_))
      rw [e7, nI_pred, nI_clamp (by omega), ← hv1, neg0]
      exact ⟨pk_in h' 400 (by omega), pk_in h' 400 (by omega), nm_e k⟩
  · -- a cell
    have hu : isUn (mk 64) := Or.inr rfl
    have h1 := hn.1 hu
    obtain ⟨h', rfl⟩ : ∃ h', h = h' + 1 := ⟨h - 1, by omega⟩
    have hst : hstep (mk 64) (h' + 1) = h' + 1 := by unfold hstep; rw [if_neg (by unfold isAt; decide), if_pos hu]
    have hv1 := e9 h' (by omega)
    have cls : ∀ Φ : S9 → Prop, wp_X3_lookAtCell (σ.2.1 23 h') (sF σ 24 (nI h')) (fun σ2 => ((σ2.1 20) = 0 → vp_in (σ.2.1 23 h') 100 ∧ wp_X4_push_9 (σ2.2.1 21 (σ.2.1 23 h').toNatClampNeg) σ2 (fun σ3 => Φ σ3)) ∧ (¬ (σ2.1 20) = 0 → Φ σ2)) → wp_X3_workOutSign 64 v σ Φ := by
      intro Φ q
      unfold wp_X3_workOutSign wp_X3_fetch
      exact br_f (by decide) (br_f (by decide) (br_t rfl (s_pop e5 (by omega) q)))
    have mdl : ∀ Ψ : Int32 → S9 → Prop, wp_X11_isCell (σ.2.1 23 h') τ (fun r8 σ2 => (r8 = 0 → Ψ (3 : Int32) σ2) ∧ (¬ r8 = 0 → vp_in ((σ2.1 25) - (1 : Int32)) 400 ∧ vp_in (σ2.2.1 25 (((σ2.1 25) - (1 : Int32))).toNatClampNeg) 100 ∧ vp_in ((σ2.1 25) - (1 : Int32)) 400 ∧ ∀ σ3 : S9, σ3 = sA σ2 25 (upd (σ2.2.1 25) (((σ2.1 25) - (1 : Int32))).toNatClampNeg (σ2.2.1 22 ((σ2.2.1 25 (((σ2.1 25) - (1 : Int32))).toNatClampNeg)).toNatClampNeg)) → Ψ (0 : Int32) σ3)) → wp_X11_work (mk 64) v τ Ψ := by
      intro Ψ q
      show wp_X11_work 3 v τ Ψ
      unfold wp_X11_work
      refine br_f (by decide) (br_t (by decide) (br_f (by decide) (br_t rfl ?_)))
      rw [e7, nI_pred, nI_clamp (by omega), ← hv1]
      exact ⟨pk_in h' 400 (by omega), q⟩
    by_cases hc : vp_in (σ.2.1 23 h') 100
    · obtain ⟨p, hp, hpe⟩ := nz_in hc (by omega)
      have hce : σ.2.1 21 p = τ.2.1 22 p := by rw [e1.2.1 21 (by decide), e2.2.1 22 (by decide)]; exact hB.ce p hp
      have bad : ¬ (σ.2.1 23 h' < 0 ∨ 100 ≤ σ.2.1 23 h') := by
        rw [hpe]
        intro z
        rcases z with z | z
        · exact nI_pos (by omega) z
        · rw [show (100 : Int32) = nI 100 from rfl, nI_leI (by omega) (by omega)] at z; omega
      refine Or.inl ⟨x, _, _, by rw [hst]; exact ev_un (v := σ.2.1 21 p) hE0, fun Φ k => cls Φ ?_, fun Ψ k => mdl Ψ ?_⟩
      · unfold wp_X3_lookAtCell
        refine (s_cellC (fun _ => br_f (by decide) (br_t e3 ⟨hc, ?_⟩)) (fun _ z => absurd z bad)).1
        rw [hpe, nI_clamp (by omega)]
        exact s_push (h := h') rfl (by omega) k
      · refine (s_cellC (fun _ => br_f (by decide) ?_) (fun _ z => absurd z bad)).2
        rw [e7, nI_pred, nI_clamp (by omega), ← hv1, hpe, nI_clamp (by omega), ← hce]
        exact ⟨pk_in h' 400 (by omega), pk_in p 100 hp, pk_in h' 400 (by omega), nm_e k⟩
    · have nex : ¬ ∃ p : Nat, p < 100 ∧ σ.2.1 23 h' = nI p := fun ⟨p, hp, e⟩ => hc (by rw [e]; exact pk_in p 100 hp)
      refine Or.inr ⟨3, Or.inr (Or.inl rfl), sF (sF σ 24 (nI h')) 20 3, τ, (e1.sF (Or.inr (Or.inr rfl)) _).sF (Or.inl rfl) _, rfl, e2, fun Φ k => cls Φ ?_, fun Ψ k => mdl Ψ ?_⟩
      · unfold wp_X3_lookAtCell
        refine (s_cellC (x := σ.2.1 23 h') (fun z => absurd z nex) (fun _ _ => ?_)).1
        refine br_t rfl (nm_e ?_)
        refine br_f ?_ k
        show ¬ (3 : Int32) = 0
        decide
      · exact (s_cellC (fun z => absurd z nex) (fun _ _ => br_t rfl k)).2
  · exact bin (Or.inl q)
  · exact bin (Or.inr (Or.inl q))
  · exact bin (Or.inr (Or.inr (Or.inl q)))
  · exact bin (Or.inr (Or.inr (Or.inr (Or.inl q))))
  · exact bin (Or.inr (Or.inr (Or.inr (Or.inr (Or.inl q)))))
  · exact bin (Or.inr (Or.inr (Or.inr (Or.inr (Or.inr (Or.inl q))))))
  · exact bin (Or.inr (Or.inr (Or.inr (Or.inr (Or.inr (Or.inr q))))))
