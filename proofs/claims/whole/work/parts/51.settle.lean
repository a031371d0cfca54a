/-! ===== behind a step: the class leaves ended calls, the reference settles ===== -/
def FR (B C : AR) (g : GH) (S M : Nat) (o : Nat → Nat) (n : Nat) : Prop := o 0 = 26 ∧ ∀ i, i < n → o (i + 1) < o i ∧ ∃ h : Nat, C 20 i = nI h ∧ LND C g S M h (o i) (B 22 i)
theorem FR_le {B C : AR} {g : GH} {S M : Nat} {o : Nat → Nat} {n : Nat} (h : FR B C g S M o n) : ∀ i, i ≤ n → o i + i ≤ 26 := by
  intro i
  induction i with
  | zero => intro _; rw [h.1]; omega
  | succ i ih =>
    intro hi
    have := ih (by omega)
    have := (h.2 i (by omega)).1
    omega
def POS (σ τ : S9) (g : GH) (S M ow n : Nat) : Prop := (∃ t : Nat, t < S ∧ σ.1 19 = nI t ∧ τ.1 17 = nI (g 0 t) ∧ g 2 t = ow) ∨ (σ.1 19 = -1 ∧ n = 0 ∧ ∃ h : Nat, h < M ∧ τ.1 17 = nI h ∧ τ.2.1 6 h = 13)
def SG (σ σ' : S9) : Prop := (∀ k, k ≠ 18 → k ≠ 19 → σ'.1 k = σ.1 k) ∧ σ'.2 = σ.2
def SH (τ τ' : S9) : Prop := (∀ k, k ≠ 17 → k ≠ 20 → τ'.1 k = τ.1 k) ∧ τ'.2 = τ.2
theorem sF_self (σ : S9) (k : Nat) : sF σ k (σ.1 k) = σ := by
  unfold sF
  refine Prod.ext ?_ rfl
  funext j
  show upd σ.1 k (σ.1 k) j = σ.1 j
  by_cases e : j = k
  · rw [e, pk_us]
  · rw [pk_un e]
/-- the reference follows its jumps -/
theorem set_jf {C : AR} {M : Nat} (hM : M ≤ 1200) {Ψ : S9 → Prop} {n : Nat} : ∀ (k h h' : Nat) (τ : S9), JF C M k h h' → τ.2.1 = C → τ.1 17 = nI h → lp_X11_settle_b0 Ψ n (sF τ 17 (nI h')) → lp_X11_settle_b0 Ψ (n + k) τ := by
  intro k
  induction k with
  | zero =>
    intro h h' τ q hC h17 z
    rw [← q.1, ← h17, sF_self] at z
    exact z
  | succ k ih =>
    intro h h' τ q hC h17 z
    obtain ⟨q1, q2, t, q3, q4⟩ := q
    show bd_X11_settle_b0 (lp_X11_settle_b0 Ψ (n + k)) Ψ τ
    have hin : vp_in (nI h) 1200 := pk_in h 1200 (by omega)
    unfold bd_X11_settle_b0
    rw [h17, nI_clamp (by omega), hC, q2]
    refine ⟨hin, br_t rfl ?_⟩
    unfold wp_X11_settle_b28
    rw [h17, nI_clamp (by omega), hC, q2]
    refine ⟨hin, br_t rfl ⟨hin, nm_e ?_⟩⟩
    rw [q3]
    refine ih t h' _ q4 hC rfl ?_
    have e : sF (sF τ 17 (nI t)) 17 (nI h') = sF τ 17 (nI h') := by
      unfold sF
      exact Prod.ext (upd_upd _ _ _ _) rfl
    rw [e]; exact z
theorem JF_end {C : AR} {M : Nat} : ∀ {k h h' : Nat}, JF C M k h h' → h' < M := by
  intro k
  induction k with
  | zero => intro h h' q; rw [← q.1]; exact q.2
  | succ k ih => intro h h' q; obtain ⟨-, -, t, -, q⟩ := q; exact ih q
theorem settle_both {B C : AR} {g : GH} {S M pl : Nat} {o : Nat → Nat} (hP : PG B C g S M pl) : ∀ (n : Nat) (σ τ : S9) (x : Int32) (h : Nat), σ.2.1 = B → τ.2.1 = C → FR B C g S M o n → σ.1 18 = nI n → τ.1 20 = nI n → σ.1 19 = x → τ.1 17 = nI h → LND C g S M h (o n) x →
    ∃ (n' : Nat) (σ' τ' : S9), n' ≤ n ∧ POS σ' τ' g S M (o n') n' ∧ σ'.1 18 = nI n' ∧ τ'.1 20 = nI n' ∧ SG σ σ' ∧ SH τ τ' ∧ (∀ Φ : S9 → Prop, Φ σ' → wp_X3_leaveEndedCalls σ Φ) ∧ ∀ Ψ : S9 → Prop, Ψ τ' → wp_X11_settle τ Ψ := by
  have hM := hP.ml
  have hSl := hP.sl
  intro n
  induction n with
  | zero =>
    intro σ τ x h hB hC hF h18 h20 h19 h17 hl
    obtain ⟨k, h', q1, q2⟩ := hl
    have hM' := JF_end q1
    have cls : ∀ Φ : S9 → Prop, Φ σ → wp_X3_leaveEndedCalls σ Φ := by
      intro Φ q
      refine ⟨1, ?_⟩
      show bd_X3_leaveEndedCalls_b0 _ Φ σ
      unfold bd_X3_leaveEndedCalls_b0
      rw [h18]
      exact br_c (fun _ => br_t (by decide) q) (fun _ => q)
    have mdl : ¬ C 6 h' = 11 → ¬ C 6 h' = 12 → ∀ Ψ : S9 → Prop, Ψ (sF τ 17 (nI h')) → wp_X11_settle τ Ψ := by
      intro e1 e2 Ψ q
      refine ⟨1 + k, set_jf hM k h h' τ q1 hC h17 ?_⟩
      show bd_X11_settle_b0 _ Ψ _
      unfold bd_X11_settle_b0
      have hin : vp_in (nI h') 1200 := pk_in h' 1200 (by omega)
      rw [show (sF τ 17 (nI h')).1 17 = nI h' from rfl, nI_clamp (by omega), show (sF τ 17 (nI h')).2.1 = C from hC]
      exact ⟨hin, br_f e1 ⟨hin, br_f e2 q⟩⟩
    have sh : SH τ (sF τ 17 (nI h')) := ⟨fun j h1 h2 => pk_un h1, rfl⟩
    rcases q2 with ⟨t, t1, t2, t3, t4⟩ | ⟨t1, t2, t3⟩ | ⟨t1, t2, t3⟩
    · have kd := (hP.ss t t2).1
      rw [← t3] at kd
      have e : ¬ C 6 h' = 11 ∧ ¬ C 6 h' = 12 := by
        rcases kd with ⟨-, e2⟩ | ⟨-, e2⟩ | ⟨-, e2⟩ | ⟨-, e2⟩ | ⟨-, e2⟩ | ⟨-, e2⟩ <;> (rw [e2]; decide)
      exact ⟨0, σ, sF τ 17 (nI h'), Nat.le_refl _, Or.inl ⟨t, t2, h19.trans t1, by rw [← t3]; rfl, t4⟩, h18, h20, ⟨fun _ _ _ => rfl, rfl⟩, sh, cls, mdl e.1 e.2⟩
    · rw [hF.1] at t2; omega
    · exact ⟨0, σ, sF τ 17 (nI h'), Nat.le_refl _, Or.inr ⟨h19.trans t1, rfl, h', hM', rfl, by show τ.2.1 6 h' = 13; rw [hC]; exact t3⟩, h18, h20, ⟨fun _ _ _ => rfl, rfl⟩, sh, cls, mdl (by rw [t3]; decide) (by rw [t3]; decide)⟩
  | succ n ih =>
    intro σ τ x h hB hC hF h18 h20 h19 h17 hl
    obtain ⟨k, h', q1, q2⟩ := hl
    have hM' := JF_end q1
    have hle := FR_le hF
    have hin : vp_in (nI h') 1200 := pk_in h' 1200 (by omega)
    have sh : SH τ (sF τ 17 (nI h')) := ⟨fun j h1 h2 => pk_un h1, rfl⟩
    rcases q2 with ⟨t, t1, t2, t3, t4⟩ | ⟨t1, t2, t3⟩ | ⟨t1, t2, t3⟩
    · have kd := (hP.ss t t2).1
      rw [← t3] at kd
      have e : ¬ C 6 h' = 11 ∧ ¬ C 6 h' = 12 := by
        rcases kd with ⟨-, e2⟩ | ⟨-, e2⟩ | ⟨-, e2⟩ | ⟨-, e2⟩ | ⟨-, e2⟩ | ⟨-, e2⟩ <;> (rw [e2]; decide)
      refine ⟨n + 1, σ, sF τ 17 (nI h'), Nat.le_refl _, Or.inl ⟨t, t2, h19.trans t1, by rw [← t3]; rfl, t4⟩, h18, h20, ⟨fun _ _ _ => rfl, rfl⟩, sh, fun Φ q => ⟨1, ?_⟩, fun Ψ q => ⟨1 + k, set_jf hM k h h' τ q1 hC h17 ?_⟩⟩
      · show bd_X3_leaveEndedCalls_b0 _ Φ σ
        unfold bd_X3_leaveEndedCalls_b0
        rw [h19, t1]
        exact br_f (nIm1 (by omega)) q
      · show bd_X11_settle_b0 _ Ψ _
        unfold bd_X11_settle_b0
        rw [show (sF τ 17 (nI h')).1 17 = nI h' from rfl, nI_clamp (by omega), show (sF τ 17 (nI h')).2.1 = C from hC]
        exact ⟨hin, br_f e.1 ⟨hin, br_f e.2 q⟩⟩
    · -- a return
      obtain ⟨f1, h2, f2, f3⟩ := hF.2 n (by omega)
      have hF' : FR B C g S M o n := ⟨hF.1, fun i hi => hF.2 i (by omega)⟩
      have hn26 : n < 26 := by have := hle (n + 1) (Nat.le_refl _); omega
      obtain ⟨n', σ', τ', r1, r2, r3, r4, r5, r6, r7, r8⟩ := ih (sF (sF σ 18 (nI n)) 19 (B 22 n)) (sF (sF (sF τ 17 (nI h')) 20 (nI n)) 17 (nI h2)) (B 22 n) h2 hB hC hF' rfl rfl rfl rfl f3
      refine ⟨n', σ', τ', by omega, r2, r3, r4, ⟨fun j h1 h2 => ?_, ?_⟩, ⟨fun j h1 h2 => ?_, ?_⟩, fun Φ q => ?_, fun Ψ q => ?_⟩
      · rw [r5.1 j h1 h2]
        show upd (upd σ.1 18 _) 19 _ j = _
        rw [pk_un h2, pk_un h1]
      · rw [r5.2]; rfl
      · rw [r6.1 j h1 h2]
        show upd (upd (upd τ.1 17 _) 20 _) 17 _ j = _
        rw [pk_un h1, pk_un h2, pk_un h1]
      · rw [r6.2]; rfl
      · obtain ⟨m, hm⟩ := r7 Φ q
        refine ⟨m + 1, ?_⟩
        show bd_X3_leaveEndedCalls_b0 (lp_X3_leaveEndedCalls_b0 Φ m) Φ σ
        unfold bd_X3_leaveEndedCalls_b0
        rw [h19, t1, h18, nI_pred]
        refine br_t rfl (br_f (nI_nle (by omega) (by omega)) (nm_e ⟨pk_in n 26 hn26, nm_e ?_⟩))
        rw [show (sF σ 18 (nI n)).1 18 = nI n from rfl, nI_clamp (by omega), show (sF σ 18 (nI n)).2.1 22 n = B 22 n from by rw [← hB]; rfl]
        exact hm
      · obtain ⟨m, hm⟩ := r8 Ψ q
        refine ⟨m + 1 + k, set_jf hM k h h' τ q1 hC h17 ?_⟩
        show bd_X11_settle_b0 (lp_X11_settle_b0 Ψ m) Ψ _
        unfold bd_X11_settle_b0
        rw [show (sF τ 17 (nI h')).1 17 = nI h' from rfl, nI_clamp (by omega), show (sF τ 17 (nI h')).2.1 = C from hC, t3]
        refine ⟨hin, br_f (by decide) ⟨hin, br_t rfl ?_⟩⟩
        unfold wp_X11_settle_b28
        rw [show (sF τ 17 (nI h')).1 17 = nI h' from rfl, nI_clamp (by omega), show (sF τ 17 (nI h')).2.1 = C from hC, t3, show (sF τ 17 (nI h')).1 20 = nI (n + 1) from h20, nI_pred]
        refine ⟨hin, br_f (by decide) (nm_e ⟨pk_in n 30 (by omega), nm_e ?_⟩)⟩
        rw [show (sF (sF τ 17 (nI h')) 20 (nI n)).1 20 = nI n from rfl, nI_clamp (by omega), show (sF (sF τ 17 (nI h')) 20 (nI n)).2.1 20 n = nI h2 from by rw [← f2, ← hC]; rfl]
        exact hm
    · have := hle (n + 1) (Nat.le_refl _)
      omega
/-! the running state of both -/
def RN (σ τ : S9) (g : GH) (S M pl rd inp n lim : Nat) (o : Nat → Nat) : Prop := (PG σ.2.1 τ.2.1 g S M pl) ∧ (EB σ τ rd inp) ∧ (τ.1 23 = nI rd) ∧ (rd ≤ inp) ∧ (σ.1 20 = τ.1 18) ∧ (τ.1 18 = 0 ∨ τ.1 18 = 2 ∨ τ.1 18 = 3 ∨ τ.1 18 = 4) ∧ (σ.1 18 = nI n) ∧ (τ.1 20 = nI n) ∧ (FR σ.2.1 τ.2.1 g S M o n) ∧ (∃ t : Nat, σ.1 17 = nI t ∧ τ.1 21 = nI t ∧ t ≤ lim) ∧ (∀ i, i < 200 → i < (σ.1 17).toNatClampNeg → σ.2.1 19 i = τ.2.1 23 i) ∧ (σ.1 21 = τ.1 19)
theorem RN.pg {σ τ : S9} {g : GH} {S M pl rd inp n lim : Nat} {o : Nat → Nat} (h : RN σ τ g S M pl rd inp n lim o) : PG σ.2.1 τ.2.1 g S M pl := h.1
theorem RN.eb {σ τ : S9} {g : GH} {S M pl rd inp n lim : Nat} {o : Nat → Nat} (h : RN σ τ g S M pl rd inp n lim o) : EB σ τ rd inp := h.2.1
theorem RN.r23 {σ τ : S9} {g : GH} {S M pl rd inp n lim : Nat} {o : Nat → Nat} (h : RN σ τ g S M pl rd inp n lim o) : τ.1 23 = nI rd := h.2.2.1
theorem RN.rl {σ τ : S9} {g : GH} {S M pl rd inp n lim : Nat} {o : Nat → Nat} (h : RN σ τ g S M pl rd inp n lim o) : rd ≤ inp := h.2.2.2.1
theorem RN.tr {σ τ : S9} {g : GH} {S M pl rd inp n lim : Nat} {o : Nat → Nat} (h : RN σ τ g S M pl rd inp n lim o) : σ.1 20 = τ.1 18 := h.2.2.2.2.1
theorem RN.tk {σ τ : S9} {g : GH} {S M pl rd inp n lim : Nat} {o : Nat → Nat} (h : RN σ τ g S M pl rd inp n lim o) : τ.1 18 = 0 ∨ τ.1 18 = 2 ∨ τ.1 18 = 3 ∨ τ.1 18 = 4 := h.2.2.2.2.2.1
theorem RN.n18 {σ τ : S9} {g : GH} {S M pl rd inp n lim : Nat} {o : Nat → Nat} (h : RN σ τ g S M pl rd inp n lim o) : σ.1 18 = nI n := h.2.2.2.2.2.2.1
theorem RN.n20 {σ τ : S9} {g : GH} {S M pl rd inp n lim : Nat} {o : Nat → Nat} (h : RN σ τ g S M pl rd inp n lim o) : τ.1 20 = nI n := h.2.2.2.2.2.2.2.1
theorem RN.fr {σ τ : S9} {g : GH} {S M pl rd inp n lim : Nat} {o : Nat → Nat} (h : RN σ τ g S M pl rd inp n lim o) : FR σ.2.1 τ.2.1 g S M o n := h.2.2.2.2.2.2.2.2.1
theorem RN.ot {σ τ : S9} {g : GH} {S M pl rd inp n lim : Nat} {o : Nat → Nat} (h : RN σ τ g S M pl rd inp n lim o) : ∃ t : Nat, σ.1 17 = nI t ∧ τ.1 21 = nI t ∧ t ≤ lim := h.2.2.2.2.2.2.2.2.2.1
theorem RN.oa {σ τ : S9} {g : GH} {S M pl rd inp n lim : Nat} {o : Nat → Nat} (h : RN σ τ g S M pl rd inp n lim o) : ∀ i, i < 200 → i < (σ.1 17).toNatClampNeg → σ.2.1 19 i = τ.2.1 23 i := h.2.2.2.2.2.2.2.2.2.2.1
theorem RN.sd {σ τ : S9} {g : GH} {S M pl rd inp n lim : Nat} {o : Nat → Nat} (h : RN σ τ g S M pl rd inp n lim o) : σ.1 21 = τ.1 19 := h.2.2.2.2.2.2.2.2.2.2.2
def RS (σ τ : S9) (g : GH) (S M pl rd inp n lim : Nat) (o : Nat → Nat) : Prop := RN σ τ g S M pl rd inp n lim o ∧ POS σ τ g S M (o n) n
