/-! ===== one step of both ===== -/
def PQB (B B' : AR) : Prop := B' 2 = B 2 ∧ B' 3 = B 3 ∧ B' 4 = B 4 ∧ B' 6 = B 6 ∧ B' 7 = B 7 ∧ B' 8 = B 8 ∧ B' 9 = B 9 ∧ B' 10 = B 10 ∧ B' 11 = B 11 ∧ B' 12 = B 12 ∧ B' 13 = B 13
def PQC (C C' : AR) : Prop := C' 6 = C 6 ∧ C' 7 = C 7 ∧ C' 8 = C 8 ∧ C' 9 = C 9 ∧ C' 10 = C 10 ∧ C' 11 = C 11 ∧ C' 12 = C 12 ∧ C' 13 = C 13 ∧ C' 14 = C 14
theorem JF_congr {C C' : AR} {M : Nat} (h6 : C' 6 = C 6) (h7 : C' 7 = C 7) : ∀ {k h h' : Nat}, JF C' M k h h' = JF C M k h h' := by
  intro k
  induction k with
  | zero => intro h h'; rfl
  | succ k ih => intro h h'; unfold JF; simp only [h6, h7, ih]
theorem LND_congr {C C' : AR} {g : GH} {S M h ow : Nat} {x : Int32} (h6 : C' 6 = C 6) (h7 : C' 7 = C 7) : LND C' g S M h ow x = LND C g S M h ow x := by
  unfold LND; simp only [JF_congr h6 h7, h6]
theorem PG_congr {B B' C C' : AR} {g : GH} {S M pl : Nat} (hB : PQB B B') (hC : PQC C C') : PG B' C' g S M pl = PG B C g S M pl := by
  obtain ⟨b2, b3, b4, b6, b7, b8, b9, b10, b11, b12, b13⟩ := hB
  obtain ⟨c6, c7, c8, c9, c10, c11, c12, c13, c14⟩ := hC
  simp only [PG, SSs, CDs, LND_congr c6 c7, b2, b3, b4, b6, b7, b8, b9, b10, b11, b12, b13, c6, c7, c8, c9, c10, c11, c12, c13, c14]
theorem FR_congr {B B' C C' : AR} {g : GH} {S M n : Nat} {o : Nat → Nat} (b22 : B' 22 = B 22) (c20 : C' 20 = C 20) (c6 : C' 6 = C 6) (c7 : C' 7 = C 7) : FR B' C' g S M o n = FR B C g S M o n := by
  simp only [FR, LND_congr c6 c7, b22, c20]
theorem RN_set {σ σ' τ τ' : S9} {g : GH} {S M pl rd inp n n' lim : Nat} {o : Nat → Nat} (h : RN σ τ g S M pl rd inp n lim o) (h1 : SG σ σ') (h2 : SH τ τ') (hn : n' ≤ n) (h18 : σ'.1 18 = nI n') (h20 : τ'.1 20 = nI n') : RN σ' τ' g S M pl rd inp n' lim o := by
  obtain ⟨a1, a2, a3, a4, a5, a6, a7, a8, a9, a10, a11, a12⟩ := h
  obtain ⟨e1, e2, e3, e4, e5, e6, e7⟩ := a2
  have g1 : ∀ k, k ≠ 18 ∧ k ≠ 19 → σ'.1 k = σ.1 k := fun k e => h1.1 k e.1 e.2
  have g2 : ∀ k, k ≠ 17 ∧ k ≠ 20 → τ'.1 k = τ.1 k := fun k e => h2.1 k e.1 e.2
  refine ⟨by rw [h1.2, h2.2]; exact a1, ⟨by rw [g1 22 (by decide)]; exact e1, by rw [g1 3 (by decide)]; exact e2, by rw [g2 22 (by decide)]; exact e3, e4, by rw [h1.2, h2.2]; exact e5, by rw [h1.2, h2.2]; exact e6, by rw [h1.2, h2.2]; exact e7⟩, by rw [g2 23 (by decide)]; exact a3, a4, by rw [g1 20 (by decide), g2 18 (by decide)]; exact a5, by rw [g2 18 (by decide)]; exact a6, h18, h20, ?_, by rw [g1 17 (by decide), g2 21 (by decide)]; exact a10, by rw [g1 17 (by decide), h1.2, h2.2]; exact a11, by rw [g1 21 (by decide), g2 19 (by decide)]; exact a12⟩
  rw [h1.2, h2.2]
  exact ⟨a9.1, fun i hi => a9.2 i (by omega)⟩
theorem step_fin {σ τ : S9} {g : GH} {S M pl rd inp n lim h2 : Nat} {o : Nat → Nat} {x : Int32} (h : RN σ τ g S M pl rd inp n lim o) (h17 : τ.1 17 = nI h2) (hl : LND τ.2.1 g S M h2 (o n) x) :
    ∃ (n' : Nat) (σ' τ' : S9), RS σ' τ' g S M pl rd inp n' lim o ∧ σ'.1 20 = σ.1 20 ∧ σ'.2 = σ.2 ∧ τ'.2 = τ.2 ∧ (∀ k, k ≠ 18 → k ≠ 19 → σ'.1 k = σ.1 k) ∧ (∀ k, k ≠ 17 → k ≠ 20 → τ'.1 k = τ.1 k) ∧ (∀ Φ : S9 → Prop, Φ σ' → wp_X3_leaveEndedCalls (sF σ 19 x) Φ) ∧ ∀ Ψ : S9 → Prop, Ψ τ' → wp_X11_settle τ Ψ := by
  obtain ⟨n', σ', τ', r1, r2, r3, r4, r5, r6, r7, r8⟩ := settle_both (o := o) h.pg n (sF σ 19 x) τ x h2 rfl rfl h.fr h.n18 h.n20 rfl h17 hl
  have sg : SG σ σ' := ⟨fun k h1 h2 => (r5.1 k h1 h2).trans (pk_un h2), r5.2⟩
  exact ⟨n', σ', τ', ⟨RN_set h sg r6 r1 r3 r4, r2⟩, sg.1 20 (by decide) (by decide), sg.2, r6.2, sg.1, r6.1, r7, r8⟩
/-- what one step of both comes to -/
def ONE (σ τ : S9) (g : GH) (S M pl rd inp n lim : Nat) (o : Nat → Nat) : Prop :=
  (∃ (n' rd' : Nat) (o' : Nat → Nat) (σ' τ' : S9), RS σ' τ' g S M pl rd' inp n' (lim + 1) o' ∧ σ'.1 20 = 0 ∧ σ'.1 21 = σ.1 21 ∧ τ'.1 19 = τ.1 19 ∧ (∀ k, k ≤ 16 → σ'.1 k = σ.1 k) ∧ (∀ k, k ≤ 18 → σ'.2.1 k = σ.2.1 k) ∧ (∀ k, k ≤ 16 ∨ k = 22 → τ'.1 k = τ.1 k) ∧ (∀ k, k ≤ 19 ∨ k = 24 → τ'.2.1 k = τ.2.1 k) ∧
    (∀ Φ : S9 → Prop, Φ σ' → wp_X3_doStep σ Φ) ∧ ∀ Ψ Q : S9 → Prop, Ψ τ' → wp_X11_workOut (τ.1 17) τ (fun r5 σ4 => ∀ σ5 : S9, σ5 = sF σ4 18 r5 → ((σ5.1 18) = 0 → ∀ σ6 : S9, σ6 = sF σ5 23 (σ5.1 24) → wp_X11_effect (σ6.1 17) σ6 (fun σ7 => wp_X11_settle σ7 (fun σ8 => Ψ σ8))) ∧ (¬ (σ5.1 18) = 0 → Q σ5))) ∨
  ∃ r : Int32, (r = 2 ∨ r = 3 ∨ r = 4) ∧ ∃ σ' τ' : S9, EVf σ σ' ∧ σ'.1 20 = r ∧ EVg τ τ' ∧ (∀ Φ : S9 → Prop, Φ σ' → wp_X3_doStep σ Φ) ∧ ∀ Ψ : Int32 → S9 → Prop, Ψ r τ' → wp_X11_workOut (τ.1 17) τ Ψ
theorem EVf.pq {σ σ' : S9} (h : EVf σ σ') : PQB σ.2.1 σ'.2.1 := by
  have r : ∀ k, k ≠ 23 → σ'.2.1 k = σ.2.1 k := h.2.1
  exact ⟨r 2 (by decide), r 3 (by decide), r 4 (by decide), r 6 (by decide), r 7 (by decide), r 8 (by decide), r 9 (by decide), r 10 (by decide), r 11 (by decide), r 12 (by decide), r 13 (by decide)⟩
theorem EVg.pq {τ τ' : S9} (h : EVg τ τ') : PQC τ.2.1 τ'.2.1 := by
  have r : ∀ k, k ≠ 25 → τ'.2.1 k = τ.2.1 k := h.2.1
  exact ⟨r 6 (by decide), r 7 (by decide), r 8 (by decide), r 9 (by decide), r 10 (by decide), r 11 (by decide), r 12 (by decide), r 13 (by decide), r 14 (by decide)⟩
theorem RN_ev {σ τ σ' τ' : S9} {g : GH} {S M pl rd inp n lim h x : Nat} {o : Nat → Nat} (hR : RN σ τ g S M pl rd inp n lim o) (hE : EV σ τ rd inp h x σ' τ') (htr : τ.1 18 = 0) : RN (sF σ' 22 (σ'.1 22 + σ'.1 23)) (sF (sF τ' 18 0) 23 (τ'.1 24)) g S M pl (rd + x) inp n lim o := by
  obtain ⟨a1, a2, a3, a4, a5, a6, a7, a8, a9, a10, a11, a12⟩ := hR
  obtain ⟨e1, e2, e3, e4, e5, e6, e7⟩ := a2
  obtain ⟨f1, f2, f3, f4, f5, f6, f7, f8, f9⟩ := hE
  have g1 : ∀ k, k ≠ 20 ∧ k ≠ 23 ∧ k ≠ 24 → σ'.1 k = σ.1 k := fun k e => f1.1 k e.1 e.2.1 e.2.2
  have g2 : ∀ k, k ≠ 24 ∧ k ≠ 25 → τ'.1 k = τ.1 k := fun k e => f2.1 k e.1 e.2
  have b : ∀ k, k ≠ 23 → σ'.2.1 k = σ.2.1 k := f1.2.1
  have c : ∀ k, k ≠ 25 → τ'.2.1 k = τ.2.1 k := f2.2.1
  refine ⟨?_, ⟨?_, (g1 3 (by decide)).trans e2, (g2 22 (by decide)).trans e3, e4, ?_, ?_, ?_⟩, f6, by omega, ?_, Or.inl rfl, (g1 18 (by decide)).trans a7, (g2 20 (by decide)).trans a8, ?_, ?_, ?_, ?_⟩
  · show PG σ'.2.1 τ'.2.1 g S M pl
    rw [PG_congr f1.pq f2.pq]; exact a1
  · show σ'.1 22 + σ'.1 23 = _
    rw [g1 22 (by decide), e1, f4, nI_add]
  · show ∀ i, i < inp → σ'.2.1 1 i = τ'.2.1 24 i
    rw [b 1 (by decide), c 24 (by decide)]; exact e5
  · show ∀ i, i < 26 → σ'.2.1 20 i = τ'.2.1 21 i
    rw [b 20 (by decide), c 21 (by decide)]; exact e6
  · show ∀ i, i < 100 → σ'.2.1 21 i = τ'.2.1 22 i
    rw [b 21 (by decide), c 22 (by decide)]; exact e7
  · exact f3
  · show FR σ'.2.1 τ'.2.1 g S M o n
    rw [FR_congr (b 22 (by decide)) (c 20 (by decide)) (c 6 (by decide)) (c 7 (by decide))]; exact a9
  · show ∃ t : Nat, σ'.1 17 = nI t ∧ τ'.1 21 = nI t ∧ t ≤ lim
    rw [g1 17 (by decide), g2 21 (by decide)]; exact a10
  · show ∀ i, i < 200 → i < (σ'.1 17).toNatClampNeg → σ'.2.1 19 i = τ'.2.1 23 i
    rw [g1 17 (by decide), b 19 (by decide), c 23 (by decide)]; exact a11
  · show σ'.1 21 = τ'.1 19
    rw [g1 21 (by decide), g2 19 (by decide)]; exact a12
theorem RN_lim {σ τ : S9} {g : GH} {S M pl rd inp n lim lim' : Nat} {o : Nat → Nat} (h : RN σ τ g S M pl rd inp n lim o) (hl : lim ≤ lim') : RN σ τ g S M pl rd inp n lim' o := by
  obtain ⟨a1, a2, a3, a4, a5, a6, a7, a8, a9, ⟨t, t1, t2, t3⟩, a11, a12⟩ := h
  exact ⟨a1, a2, a3, a4, a5, a6, a7, a8, a9, ⟨t, t1, t2, by omega⟩, a11, a12⟩
