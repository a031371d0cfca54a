/-! ===== what the rest of the arrays doesn't touch ===== -/
def EQB (B B' : AR) : Prop := B' 2 = B 2 ∧ B' 3 = B 3 ∧ B' 4 = B 4 ∧ B' 5 = B 5 ∧ B' 6 = B 6 ∧ B' 7 = B 7 ∧ B' 8 = B 8 ∧ B' 12 = B 12 ∧ B' 13 = B 13 ∧ B' 14 = B 14 ∧ B' 15 = B 15 ∧ B' 16 = B 16
def EQC (C C' : AR) : Prop := C' 6 = C 6 ∧ C' 7 = C 7 ∧ C' 10 = C 10 ∧ C' 14 = C 14 ∧ C' 15 = C 15
theorem EQB.rf (B : AR) : EQB B B := ⟨rfl, rfl, rfl, rfl, rfl, rfl, rfl, rfl, rfl, rfl, rfl, rfl⟩
theorem EQC.rf (C : AR) : EQC C C := ⟨rfl, rfl, rfl, rfl, rfl⟩
theorem JC_congr {C C' : AR} {g : GH} (h6 : C' 6 = C 6) (h7 : C' 7 = C 7) : ∀ {k h h' : Nat}, JC C' g k h h' = JC C g k h h' := by
  intro k
  induction k with
  | zero => intro h h'; rfl
  | succ k ih => intro h h'; unfold JC; simp only [h6, h7, ih]
theorem JJ_congr {C C' : AR} {g : GH} {m x y : Nat} (h6 : C' 6 = C 6) (h7 : C' 7 = C 7) : JJ C' g m x y = JJ C g m x y := by
  unfold JJ; simp only [JC_congr h6 h7]
theorem ST_congr {B B' C C' : AR} {g : GH} {S m : Nat} {O U : Nat → Prop} (hB : EQB B B') (hC : EQC C C') : ST B' C' g S m O U = ST B C g S m O U := by
  obtain ⟨b2, b3, b4, b5, b6, b7, b8, b12, b13, b14, b15, b16⟩ := hB
  obtain ⟨c6, c7, c10, c14, c15⟩ := hC
  simp only [ST, FinP, CLP, ELok, FIok, SEok, JJ_congr c6 c7, b2, b5, b6, b7, b8, c6, c7]
theorem OO_congr {B B' : AR} {d : Nat} {xo : Int32} (hB : EQB B B') : OO B' d xo = OO B d xo := by
  funext s; simp only [OO, hB.2.2.2.2.2.2.2.2.2.1]
theorem UU_congr {B B' : AR} {d : Nat} {xu : Int32} (hB : EQB B B') : UU B' d xu = UU B d xu := by
  funext s; simp only [UU, hB.2.2.2.2.2.2.2.2.2.2.2]
theorem LVL_congr {B B' C C' : AR} {g : GH} {S m d ow : Nat} (hB : EQB B B') (hC : EQC C C') : LVL B' C' g S m d ow = LVL B C g S m d ow := by
  obtain ⟨b2, b3, b4, b5, b6, b7, b8, b12, b13, b14, b15, b16⟩ := hB
  obtain ⟨c6, c7, c10, c14, c15⟩ := hC
  simp only [LVL, LVe, LSe, OPN, ELok, FIok, SEok, b2, b5, b6, b7, b8, b14, b15, b16, c6, c7]
theorem PD_congr {B B' C C' : AR} {g : GH} {S m np : Nat} (hB : EQB B B') (hC : EQC C C') : PD B' C' g S m np = PD B C g S m np := by
  obtain ⟨b2, b3, b4, b5, b6, b7, b8, b12, b13, b14, b15, b16⟩ := hB
  obtain ⟨c6, c7, c10, c14, c15⟩ := hC
  simp only [PD, PDq, b12, b13, c6, c14, c15]
theorem SSs_congr {B B' C C' : AR} {g : GH} {s : Nat} (hB : EQB B B') (hC : EQC C C') : SSs B' C' g s = SSs B C g s := by
  obtain ⟨b2, b3, b4, b5, b6, b7, b8, b12, b13, b14, b15, b16⟩ := hB
  obtain ⟨c6, c7, c10, c14, c15⟩ := hC
  simp only [SSs, b2, b3, b4, b13, c6, c7, c10, c14]
theorem MN_congr {B B' C C' : AR} {g : GH} {S m y : Nat} (hB : EQB B B') (hC : EQC C C') : MN B' C' g S m y = MN B C g S m y := by
  obtain ⟨b2, b3, b4, b5, b6, b7, b8, b12, b13, b14, b15, b16⟩ := hB
  obtain ⟨c6, c7, c10, c14, c15⟩ := hC
  simp only [MN, JJ_congr c6 c7, b12, b16]
theorem PN0_congr {B B' C C' : AR} {g : GH} {S m d pr : Nat} (hB : EQB B B') (hC : EQC C C') : PN0 B' C' g S m d pr = PN0 B C g S m d pr := by
  obtain ⟨b2, b3, b4, b5, b6, b7, b8, b12, b13, b14, b15, b16⟩ := hB
  obtain ⟨c6, c7, c10, c14, c15⟩ := hC
  simp only [PN0, MN, JJ_congr c6 c7, b12, b14, b15, b16, c14]
theorem bsT_cg {B B' : AR} {g : GH} {pn d : Nat} (hB : EQB B B') : bsT B' g pn d = bsT B g pn d := by
  refine bsT_congr (fun e _ _ => ?_)
  unfold ctxT
  rw [hB.2.2.2.2.2.2.2.2.2.1, hB.2.2.2.2.2.2.2.2.2.2.1, hB.1]
theorem RM_congr {B B' : AR} {S m d np x : Nat} (hB : EQB B B') (h : RM B S m d np x) : RM B' S m d np x := by
  unfold RM at h ⊢
  rw [cntL_congr (B := B) (fun e _ _ => ⟨by rw [hB.2.2.2.2.2.2.2.2.2.1], by rw [hB.2.2.2.2.2.2.2.2.2.2.1]⟩)]
  have e : inD B' d ↔ inD B d := inD_congr hB.2.2.2.2.2.2.2.2.2.1
  by_cases z : inD B d
  · rw [if_pos z] at h; rw [if_pos (e.mpr z)]; exact h
  · rw [if_neg z] at h; rw [if_neg (fun y => z (e.mp y))]; exact h
theorem SM_congr {b b' c c' : S9} {g : GH} {S m d np T wp : Nat} {xo xu : Int32} (h : SM b c g S m d np T xo xu wp) (hB : EQB b.2.1 b'.2.1) (hC : EQC c.2.1 c'.2.1) (hn : NUM b' c' S m d np) (hcd : ∀ s, s < T → CDs b'.2.1 c'.2.1 g s) : SM b' c' g S m d np T xo xu wp := by
  obtain ⟨h1, h2, h3, h4, h5, h6, h7, h8, h9, h10, h11, h12⟩ := h
  refine ⟨hn, ?_, ?_, ?_, ?_, fun s hs => ?_, h7, h8, ?_, h10, hcd, h12⟩
  · rw [ST_congr hB hC, OO_congr hB, UU_congr hB]; exact h2
  · rw [LVL_congr hB hC, owR_congr hB.2.2.2.2.2.2.2.2.2.1]; exact h3
  · rw [PD_congr hB hC]; exact h4
  · rw [cntD_congr hB.2.2.2.2.2.2.2.2.1]; exact h5
  · rw [SSs_congr hB hC]; exact h6 s hs
  · rw [hC.2.2.1]; exact h9
theorem DI_congr {b b' c c' : S9} {g : GH} {S m d np pr pj : Nat} {xo : Int32} (h : DI b c g S m d np pr pj xo) (hB : EQB b.2.1 b'.2.1) (hC : EQC c.2.1 c'.2.1) (h8 : b'.1 8 = b.1 8) : DI b' c' g S m d np pr pj xo := by
  obtain ⟨i1, i2, i3, i4, i5, i6, i7, i8, i9, i10, i11, i12⟩ := h
  have hM := fun y => MN_congr (g := g) (S := S) (m := m) (y := y) hB hC
  have hO := OO_congr (d := d) (xo := xo) hB
  obtain ⟨b2, b3, b4, b5, b6, b7, b8, b12, b13, b14, b15, b16⟩ := hB
  obtain ⟨c6, c7, c10, c14, c15⟩ := hC
  refine ⟨by rw [h8]; exact i1, i2, by rw [b13]; exact i3, by rw [c14]; exact i4, i5, by rw [c6]; exact i6, i7, by rw [hM]; exact i8, ?_, ?_, i11, ?_⟩
  · rw [b16, hO]; simp only [JJ_congr c6 c7]; exact i9
  · rw [b12, b16]; exact i10
  · rw [b12, b13]; exact i12
theorem DN_congr {b b' c c' : S9} {g : GH} {S m : Nat} (h : DN b c g S m) (hB : EQB b.2.1 b'.2.1) (hC : EQC c.2.1 c'.2.1) (h8 : b'.1 8 = b.1 8) : DN b' c' g S m := by
  obtain ⟨i1, i2, ⟨y, i3⟩, i4⟩ := h
  refine ⟨by rw [h8]; exact i1, i2, ⟨y, by rw [MN_congr hB hC]; exact i3⟩, ?_⟩
  rw [hB.2.2.2.2.2.2.2.1, hB.2.2.2.2.2.2.2.2.1]; exact i4
theorem DF_congr {b b' c c' : S9} {g : GH} {S m d np pr pj : Nat} {xo : Int32} (h : DF b c g S m d np pr pj xo) (hB : EQB b.2.1 b'.2.1) (hC : EQC c.2.1 c'.2.1) (h8 : b'.1 8 = b.1 8) : DF b' c' g S m d np pr pj xo := by
  have e : inD b'.2.1 d ↔ inD b.2.1 d := inD_congr hB.2.2.2.2.2.2.2.2.2.1
  exact ⟨fun z => DI_congr (h.1 (e.mp z)) hB hC h8, fun z => DN_congr (h.2 (fun y => z (e.mpr y))) hB hC h8⟩
/-- structure from an older one -/
theorem ST_step {B B' C C' : AR} {g g' : GH} {S m m' : Nat} {O U O' U' : Nat → Prop} (h : ST B C g S m O U) (hag : AG B B' C C' g g' S m O U) (hm : m ≤ m') (hO : ∀ s, s < S → O' s → O s) (hOU : ∀ s, s < S → O s → U s)
    (hU : ∀ s, s < S → U s → U' s ∨ FinP B' C' g' S m' O' s) (hC : ∀ s, s < S → O s → O' s ∨ CLP B' C' g' S m' s) (h4 : ∀ s, s < S → g' 4 (g' 0 s) = 0) : ST B' C' g' S m' O' U' := by
  obtain ⟨s1, s2, s3, s4⟩ := h
  refine ⟨fun s hs => ?_, fun s hs => ?_, fun s hs => ⟨?_, h4 s hs⟩, fun s t h1 h2 => ?_⟩
  · by_cases hu : U s
    · exact hU s hs hu
    · rcases s1 s hs with q | q
      · exact absurd q hu
      · exact Or.inr (AG_Fin hag (Nat.le_refl _) hm hO hs hu (fun z => hu (hOU s hs z)) q)
  · by_cases ho : O s
    · exact hC s hs ho
    · rcases s2 s hs with q | q
      · exact absurd q ho
      · exact Or.inr (AG_CL hag (Nat.le_refl _) hm hs ho q)
  · rw [(hag.2.1 s hs).1]; have := (s3 s hs).1; omega
  · rw [(hag.2.1 s (by omega)).1, (hag.2.1 t h2).1]; exact s4 s t h1 h2
