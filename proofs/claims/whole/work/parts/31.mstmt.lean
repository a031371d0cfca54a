/-! ===== the reference's statement ===== -/
def mStart (c : S9) (S : Nat) : S9 := sF (sF (sF (sF c 8 (nI (S + 1))) 9 0) 14 0) 15 0
def mStep (c : S9) (S : Nat) (ck ct pc : Int32) (m j : Nat) : S9 := sF (mCode (mStart c S) ck ct pc m) 3 (nI (j + 1))
theorem mStart_st {c τ : S9} {l : List (Int32 × Int32)} {S : Nat} (h : St c l τ) : St (mStart c S) l (sF (sF (sF (sF τ 8 (nI (S + 1))) 9 0) 14 0) 15 0) :=
  St_sF (St_sF (St_sF (St_sF h (by decide) _) (by decide) _) (by decide) _) (by decide) _
/-- up to where the kinds part -/
theorem s_stmt0 {c τ : S9} {l : List (Int32 × Int32)} {S j : Nat} {kd v pc : Int32} {Φ : S9 → Prop} (h : St c l τ) (hw : wd c j kd) (hv : c.2.1 2 j = v) (hpc : c.2.1 3 j = pc) (h8 : c.1 8 = nI S) (hS : S < 300)
    (k : ∀ τ4, St (mStart c S) l τ4 → τ4.1 3 = nI j → (kd = (4 : Int32) → vp_in v 26 ∧ ((τ4.2.1 15 v.toNatClampNeg) = 0 → wp_X11_fail (nI j) τ4 (fun σ9 => Φ σ9)) ∧ (¬ (τ4.2.1 15 v.toNatClampNeg) = 0 → wp_X11_code (4 : Int32) (τ4.2.1 14 v.toNatClampNeg) pc τ4 (fun r17 σ6 => wp_X11_come (4 : Int32) (59 : Int32) (sF σ6 3 ((σ6.1 3) + (1 : Int32))) (fun σ8 => Φ σ8)))) ∧ (¬ kd = (4 : Int32) → (kd = (3 : Int32) → wp_X11_statement_b155 Φ kd pc τ4) ∧ (¬ kd = (3 : Int32) → (kd = (164 : Int32) → wp_X11_statement_b155 Φ kd pc τ4) ∧ (¬ kd = (164 : Int32) → (kd = (133 : Int32) → wp_X11_statement_b155 Φ kd pc τ4) ∧ (¬ kd = (133 : Int32) → (kd = (163 : Int32) → wp_X11_statement_b246 Φ kd pc τ4) ∧ (¬ kd = (163 : Int32) → (kd = (142 : Int32) → wp_X11_statement_b246 Φ kd pc τ4) ∧ (¬ kd = (142 : Int32) → wp_X11_fail (nI j) τ4 (fun σ5 => Φ σ5)))))))) : wp_X11_statement τ Φ := by
  obtain ⟨w1, w2, w3, w4⟩ := hw
  have e3 : τ.1 3 = nI j := by rw [St_1 h (show (3 : Nat) ≠ 5 by decide), w1]
  have e8 : τ.1 8 = nI S := by rw [St_1 h (show (8 : Nat) ≠ 5 by decide), h8]
  have r1 : τ.2.1 1 = c.2.1 1 := St_2 h (by decide) (by decide)
  have r2 : τ.2.1 2 = c.2.1 2 := St_2 h (by decide) (by decide)
  have r3 : τ.2.1 3 = c.2.1 3 := St_2 h (by decide) (by decide)
  have hin : vp_in (nI j) 3002 := pk_in j 3002 (by omega)
  have hj : (nI j).toNatClampNeg = j := nI_clamp (by omega)
  unfold wp_X11_statement
  simp only [forall_eq, e3, e8, hj, r1, r2, r3, w3, hv, hpc, nI_1]
  refine ⟨hin, hin, pk_eq S 300 (fun e => absurd e (by omega)) (fun _ => ?_)⟩
  have q := k _ (mStart_st (S := S) h) (by show τ.1 3 = _; exact e3)
  have f3 : (sF (sF (sF (sF τ 8 (nI (S + 1))) 9 0) 14 0) 15 0).1 3 = nI j := e3
  have f2 : (sF (sF (sF (sF τ 8 (nI (S + 1))) 9 0) 14 0) 15 0).2.1 2 j = v := by show τ.2.1 2 j = v; rw [r2, hv]
  simp only [f3, hj, f2]
  refine ⟨fun z => ?_, q.2⟩
  obtain ⟨q1, q2, q3⟩ := q.1 z
  exact ⟨hin, q1, q2, fun z2 => ⟨hin, q1, q3 z2⟩⟩
theorem s_stmt300 {c τ : S9} {l : List (Int32 × Int32)} {j : Nat} {kd : Int32} {Φ : S9 → Prop} (h : St c l τ) (hw : wd c j kd) (h8 : c.1 8 = nI 300) (k : ∀ τ', St (sF c 4 (c.2.1 3 j)) l τ' → Φ τ') : wp_X11_statement τ Φ := by
  obtain ⟨w1, w2, w3, w4⟩ := hw
  have e3 : τ.1 3 = nI j := by rw [St_1 h (show (3 : Nat) ≠ 5 by decide), w1]
  have e8 : τ.1 8 = 300 := by rw [St_1 h (show (8 : Nat) ≠ 5 by decide), h8]; rfl
  have hin : vp_in (nI j) 3002 := pk_in j 3002 (by omega)
  unfold wp_X11_statement
  rw [e3, e8]
  refine ⟨hin, nm_e ⟨hin, nm_e (br_t rfl ?_)⟩⟩
  exact s_fail h w4 (by omega) k
theorem s_stmtCall {c τ : S9} {l : List (Int32 × Int32)} {S j m q : Nat} {pc : Int32} {Φ : S9 → Prop} (h : St c l τ) (hw : wd c j 4) (hv : c.2.1 2 j = nI q) (hq : q < 26) (hpc : c.2.1 3 j = pc) (h8 : c.1 8 = nI S) (hS : S < 300) (h11 : c.1 11 = nI m) (hm : m < 1200) (hl : l.length < 3900)
    (hd : ¬ c.2.1 15 q = 0) (k : ∀ τ', St (mStep c S 4 (c.2.1 14 q) pc m j) ((4, 59) :: l) τ' → Φ τ') : wp_X11_statement τ Φ := by
  refine s_stmt0 h hw hv hpc h8 hS (fun τ4 h4 e3 => br_t rfl ⟨pk_in q 26 hq, ?_⟩)
  have r14 : τ4.2.1 14 = c.2.1 14 := St_2 h4 (by decide) (by decide)
  have r15 : τ4.2.1 15 = c.2.1 15 := St_2 h4 (by decide) (by decide)
  rw [nI_clamp (by omega), r14, r15]
  refine br_f hd (s_code (m := m) h4 h11 hm (fun τ5 h5 => ?_))
  rw [St_1 h5 (show (3 : Nat) ≠ 5 by decide), show (mCode (mStart c S) 4 (c.2.1 14 q) pc m).1 3 = nI j from hw.1, nI_1]
  exact s_come (St_sF h5 (by decide) _) (by omega) k
theorem s_stmtCall0 {c τ : S9} {l : List (Int32 × Int32)} {S j q : Nat} {Φ : S9 → Prop} (h : St c l τ) (hw : wd c j 4) (hv : c.2.1 2 j = nI q) (hq : q < 26) (h8 : c.1 8 = nI S) (hS : S < 300) (hd : c.2.1 15 q = 0) (k : ∀ τ', St (sF (mStart c S) 4 (c.2.1 3 j)) l τ' → Φ τ') : wp_X11_statement τ Φ := by
  refine s_stmt0 h hw hv rfl h8 hS (fun τ4 h4 e3 => br_t rfl ⟨pk_in q 26 hq, ?_⟩)
  have r15 : τ4.2.1 15 = c.2.1 15 := St_2 h4 (by decide) (by decide)
  rw [nI_clamp (by omega), r15]
  exact br_t hd (s_fail h4 hw.2.2.2 (by have := hw.2.1; omega) k)
theorem s_stmtBad {c τ : S9} {l : List (Int32 × Int32)} {S j : Nat} {kd : Int32} {Φ : S9 → Prop} (h : St c l τ) (hw : wd c j kd) (h8 : c.1 8 = nI S) (hS : S < 300) (n4 : ¬ kd = 4) (n3 : ¬ kd = 3) (n164 : ¬ kd = 164) (n133 : ¬ kd = 133) (n163 : ¬ kd = 163) (n142 : ¬ kd = 142)
    (k : ∀ τ', St (sF (mStart c S) 4 (c.2.1 3 j)) l τ' → Φ τ') : wp_X11_statement τ Φ :=
  s_stmt0 h hw rfl rfl h8 hS (fun τ4 h4 e3 => br_f n4 (br_f n3 (br_f n164 (br_f n133 (br_f n163 (br_f n142 (s_fail h4 hw.2.2.2 (by have := hw.2.1; omega) k)))))))
/-- names, cells, outputs -/
theorem s_stmt155 {c τ : S9} {l : List (Int32 × Int32)} {S j m : Nat} {kd v pc : Int32} {Φ : S9 → Prop} (h : St (mStart c S) l τ) (h3 : τ.1 3 = nI j) (hj : j < 3001) (hv : c.2.1 2 j = v) (h11 : c.1 11 = nI m) (hm : m < 1200) (hl : l.length < 3900)
    (k : ∀ τ', St (mStep c S kd v pc m j) ((if kd = 164 then [((11 : Int32), (0 : Int32))] else []) ++ ((if kd = 133 then [] else [((4 : Int32), (61 : Int32))]) ++ ((5, 0) :: (14, nI m) :: (4, 59) :: l))) τ' → Φ τ') : wp_X11_statement_b155 Φ kd pc τ := by
  unfold wp_X11_statement_b155
  have r2 : τ.2.1 2 = c.2.1 2 := St_2 h (by decide) (by decide)
  rw [h3, nI_clamp (by omega), r2, hv]
  refine ⟨pk_in j 3002 (by omega), s_code (m := m) h h11 hm (fun τ5 h5 => nm_e ?_)⟩
  have e3 : τ5.1 3 = nI j := by
    rw [St_1 h5 (show (3 : Nat) ≠ 5 by decide)]
    have := St_1 h (show (3 : Nat) ≠ 5 by decide)
    rw [h3] at this
    exact this.symm
  rw [e3, nI_1]
  have h6 := St_sF h5 (show (3 : Nat) ≠ 5 by decide) (nI (j + 1))
  refine s_come h6 (by omega) (fun τ6 h6 => s_come h6 (by simp only [List.length_cons]; omega) (fun τ7 h7 => s_come h7 (by simp only [List.length_cons]; omega) (fun τ8 h8 => ?_)))
  have last : ∀ (l' : List (Int32 × Int32)) (τ9 : S9), l'.length < 3950 → St (mStep c S kd v pc m j) l' τ9 → (∀ τ', St (mStep c S kd v pc m j) ((if kd = 164 then [((11 : Int32), (0 : Int32))] else []) ++ l') τ' → Φ τ') → wp_X11_statement_b215 Φ kd τ9 := by
    intro l' τ9 hl' h9 kk
    unfold wp_X11_statement_b215
    refine br_c (fun z => ?_) (fun z => ?_)
    · rw [if_pos z] at kk; exact s_come h9 (by omega) kk
    · rw [if_neg z] at kk; exact kk τ9 h9
  refine br_c (fun z => ?_) (fun z => ?_)
  · rw [if_pos z] at k
    exact last _ _ (by simp only [List.length_cons]; omega) h8 k
  · rw [if_neg z] at k
    refine s_come h8 (by simp only [List.length_cons]; omega) (fun τ9 h9 => last _ _ (by simp only [List.length_cons]; omega) h9 k)
theorem s_stmtN {c τ : S9} {l : List (Int32 × Int32)} {S j m : Nat} {kd v pc : Int32} {Φ : S9 → Prop} (h : St c l τ) (hw : wd c j kd) (hk : kd = 3 ∨ kd = 164 ∨ kd = 133) (hv : c.2.1 2 j = v) (hpc : c.2.1 3 j = pc) (h8 : c.1 8 = nI S) (hS : S < 300) (h11 : c.1 11 = nI m) (hm : m < 1200) (hl : l.length < 3900)
    (k : ∀ τ', St (mStep c S kd v pc m j) ((if kd = 164 then [((11 : Int32), (0 : Int32))] else []) ++ ((if kd = 133 then [] else [((4 : Int32), (61 : Int32))]) ++ ((5, 0) :: (14, nI m) :: (4, 59) :: l))) τ' → Φ τ') : wp_X11_statement τ Φ := by
  refine s_stmt0 h hw hv hpc h8 hS (fun τ4 h4 e3 => ?_)
  have go := s_stmt155 h4 e3 hw.2.1 hv h11 hm hl k
  rcases hk with e | e | e
  · subst e; exact br_f (by decide) (br_t rfl go)
  · subst e; exact br_f (by decide) (br_f (by decide) (br_t rfl go))
  · subst e; exact br_f (by decide) (br_f (by decide) (br_f (by decide) (br_t rfl go)))
theorem s_stmtC {c τ : S9} {l : List (Int32 × Int32)} {S j m : Nat} {kd pc : Int32} {Φ : S9 → Prop} (h : St c l τ) (hw : wd c j kd) (hk : kd = 163 ∨ kd = 142) (hpc : c.2.1 3 j = pc) (h8 : c.1 8 = nI S) (hS : S < 300) (h11 : c.1 11 = nI m) (hm : m < 1200) (hl : l.length < 3900)
    (k : ∀ τ', St (mStep c S kd 0 pc m j) ((5, 0) :: (14, nI m) :: (3, 0) :: ((if kd = 163 then 15 else 17), nI m) :: l) τ' → Φ τ') : wp_X11_statement τ Φ := by
  have last : ∀ (t : Int32) (τ9 : S9), St (mStep c S kd 0 pc m j) l τ9 → (∀ τ', St (mStep c S kd 0 pc m j) ((5, 0) :: (14, nI m) :: (3, 0) :: (t, nI m) :: l) τ' → Φ τ') → wp_X11_statement_b279 Φ (nI m) t τ9 := by
    intro t τ9 h9 kk
    unfold wp_X11_statement_b279
    exact s_come h9 (by omega) (fun τ6 h6 => s_come h6 (by simp only [List.length_cons]; omega) (fun τ7 h7 => s_come h7 (by simp only [List.length_cons]; omega) (fun τ8 h8 => s_come h8 (by simp only [List.length_cons]; omega) kk)))
  refine s_stmt0 h hw rfl hpc h8 hS (fun τ4 h4 e3 => ?_)
  have go : wp_X11_statement_b246 Φ kd pc τ4 := by
    unfold wp_X11_statement_b246
    refine s_code (m := m) h4 h11 hm (fun τ5 h5 => nm_e ?_)
    rw [St_1 h5 (show (3 : Nat) ≠ 5 by decide), show (mCode (mStart c S) kd 0 pc m).1 3 = nI j from hw.1, nI_1]
    have h6 := St_sF h5 (show (3 : Nat) ≠ 5 by decide) (nI (j + 1))
    refine br_c (fun z => ?_) (fun z => ?_)
    · rw [if_pos z] at k; exact last 15 _ h6 k
    · rw [if_neg z] at k; exact last 17 _ h6 k
  rcases hk with e | e
  · subst e; exact br_f (by decide) (br_f (by decide) (br_f (by decide) (br_f (by decide) (br_t rfl go))))
  · subst e; exact br_f (by decide) (br_f (by decide) (br_f (by decide) (br_f (by decide) (br_f (by decide) (br_t rfl go)))))
/-- a statement begins, inside a block or outside -/
theorem m_stmt {c c' : S9} {B : AR} {g : GH} {pn d j : Nat} {kd : Int32} {l' : List (Int32 × Int32)} {Ψ : Int32 → S9 → Prop} (hw : wd c j kd) (hd : d ≤ 20) (h0 : d = 0 → ¬ kd = 0 ∧ ¬ (kd = 4 ∧ c.2.1 1 (j + 1) = 223)) (h1 : 1 ≤ d → ¬ kd = 225)
    (hs : ∀ (τ : S9) (K : S9 → Prop), St c (bsT B g pn d) τ → (∀ τ', St c' l' τ' → K τ') → wp_X11_statement τ K) (k : MG c' l' Ψ) : MG c (bsT B g pn d) Ψ := by
  obtain ⟨w1, w2, w3, w4⟩ := hw
  have hin : vp_in (nI j) 3002 := pk_in j 3002 (by omega)
  cases d with
  | zero =>
    refine mg_out w4 (by decide) ⟨by decide, Or.inl (by decide)⟩ (fun τ K h kk => ?_) k
    obtain ⟨n0, n4⟩ := h0 rfl
    unfold wp_X11_doOuter
    have e3 : ∀ (l : List (Int32 × Int32)) (τ : S9), St c l τ → τ.1 3 = nI j ∧ τ.2.1 1 = c.2.1 1 := fun l τ hh => ⟨by rw [St_1 hh (show (3 : Nat) ≠ 5 by decide), w1], St_2 hh (by decide) (by decide)⟩
    refine br_t rfl ?_
    rw [(e3 _ _ h).1, (e3 _ _ h).2, nI_clamp (by omega), w3]
    refine ⟨hin, br_f n0 (s_come h (by decide) (fun τ1 h1 => ?_))⟩
    unfold wp_X11_outer
    rw [(e3 _ _ h1).1, (e3 _ _ h1).2, nI_1, nI_clamp (by omega), nI_clamp (by omega), w3]
    have go : wp_X11_outer_b34 (fun σ2 => K σ2) τ1 := by
      unfold wp_X11_outer_b34 wp_X11_outer_b35
      exact br_t rfl (hs τ1 K h1 kk)
    exact ⟨hin, br_c (fun z => ⟨pk_in (j + 1) 3002 (by omega), br_f (fun y => n4 ⟨z, y⟩) go⟩) (fun _ => go)⟩
  | succ d =>
    have hlen := bsT_len B g pn d
    refine mg_out w4 (by simp only [List.length_cons]; omega) ⟨by decide, Or.inl (by decide)⟩ (fun τ K h kk => ?_) k
    unfold wp_X11_doOuter
    refine br_f (by decide) (br_t rfl (s_sees h w1 (by omega) (fun e => absurd (w3.symm.trans e) (h1 (by omega))) (fun _ => br_t rfl (s_come h (by simp only [List.length_cons]; omega) (fun τ1 h1 => hs τ1 K h1 kk)))))
