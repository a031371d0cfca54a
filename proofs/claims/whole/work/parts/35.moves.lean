/-! ===== codes that no step has: jumps and returns ===== -/
/-- what a move may change -/
def MV (b b' c c' : S9) (g g' : GH) (S m m' d np T wp wp' : Nat) (P : Nat → Prop) : Prop := (m ≤ m') ∧ (wp ≤ wp') ∧ (b'.2.1 2 = b.2.1 2) ∧ (b'.2.1 3 = b.2.1 3) ∧ (b'.2.1 4 = b.2.1 4) ∧ (b'.2.1 5 = b.2.1 5) ∧ (b'.2.1 6 = b.2.1 6) ∧ (b'.2.1 7 = b.2.1 7) ∧ (b'.2.1 8 = b.2.1 8) ∧ (b'.2.1 9 = b.2.1 9) ∧ (∀ h, h < m → c'.2.1 6 h = c.2.1 6 h) ∧ (∀ h, h < m → ¬ P h → c'.2.1 7 h = c.2.1 7 h) ∧ (∀ h, h < m → c'.2.1 8 h = c.2.1 8 h ∧ c'.2.1 9 h = c.2.1 9 h ∧ c'.2.1 10 h = c.2.1 10 h ∧ c'.2.1 11 h = c.2.1 11 h) ∧ (∀ h, m ≤ h → h < m' → c'.2.1 10 h = -1) ∧ (c'.2.1 12 = c.2.1 12 ∧ c'.2.1 13 = c.2.1 13) ∧ (∀ s, s < S → g' 0 s = g 0 s ∧ g' 2 s = g 2 s ∧ g' 7 s = g 7 s ∧ g' 9 s = g 9 s ∧ g' 10 s = g 10 s) ∧ (∀ q, q < 26 → b.2.1 13 q = 1 → b'.2.1 13 q = 1 ∧ c'.2.1 14 q = c.2.1 14 q ∧ g' 8 q = g 8 q ∧ b'.2.1 12 q = b.2.1 12 q ∧ c'.2.1 15 q = c.2.1 15 q) ∧ (∀ s, s < S → P (g 0 s) → ¬ b.2.1 2 s = 61 ∧ ¬ b.2.1 2 s = 65)
theorem MV.mm {b b' c c' : S9} {g g' : GH} {S m m' d np T wp wp' : Nat} {P : Nat → Prop} (h : MV b b' c c' g g' S m m' d np T wp wp' P) : m ≤ m' := h.1
theorem MV.wl {b b' c c' : S9} {g g' : GH} {S m m' d np T wp wp' : Nat} {P : Nat → Prop} (h : MV b b' c c' g g' S m m' d np T wp wp' P) : wp ≤ wp' := h.2.1
theorem MV.k2 {b b' c c' : S9} {g g' : GH} {S m m' d np T wp wp' : Nat} {P : Nat → Prop} (h : MV b b' c c' g g' S m m' d np T wp wp' P) : b'.2.1 2 = b.2.1 2 := h.2.2.1
theorem MV.k3 {b b' c c' : S9} {g g' : GH} {S m m' d np T wp wp' : Nat} {P : Nat → Prop} (h : MV b b' c c' g g' S m m' d np T wp wp' P) : b'.2.1 3 = b.2.1 3 := h.2.2.2.1
theorem MV.k4 {b b' c c' : S9} {g g' : GH} {S m m' d np T wp wp' : Nat} {P : Nat → Prop} (h : MV b b' c c' g g' S m m' d np T wp wp' P) : b'.2.1 4 = b.2.1 4 := h.2.2.2.2.1
theorem MV.k5 {b b' c c' : S9} {g g' : GH} {S m m' d np T wp wp' : Nat} {P : Nat → Prop} (h : MV b b' c c' g g' S m m' d np T wp wp' P) : b'.2.1 5 = b.2.1 5 := h.2.2.2.2.2.1
theorem MV.k6 {b b' c c' : S9} {g g' : GH} {S m m' d np T wp wp' : Nat} {P : Nat → Prop} (h : MV b b' c c' g g' S m m' d np T wp wp' P) : b'.2.1 6 = b.2.1 6 := h.2.2.2.2.2.2.1
theorem MV.k7 {b b' c c' : S9} {g g' : GH} {S m m' d np T wp wp' : Nat} {P : Nat → Prop} (h : MV b b' c c' g g' S m m' d np T wp wp' P) : b'.2.1 7 = b.2.1 7 := h.2.2.2.2.2.2.2.1
theorem MV.k8 {b b' c c' : S9} {g g' : GH} {S m m' d np T wp wp' : Nat} {P : Nat → Prop} (h : MV b b' c c' g g' S m m' d np T wp wp' P) : b'.2.1 8 = b.2.1 8 := h.2.2.2.2.2.2.2.2.1
theorem MV.k9 {b b' c c' : S9} {g g' : GH} {S m m' d np T wp wp' : Nat} {P : Nat → Prop} (h : MV b b' c c' g g' S m m' d np T wp wp' P) : b'.2.1 9 = b.2.1 9 := h.2.2.2.2.2.2.2.2.2.1
theorem MV.c6 {b b' c c' : S9} {g g' : GH} {S m m' d np T wp wp' : Nat} {P : Nat → Prop} (h : MV b b' c c' g g' S m m' d np T wp wp' P) : ∀ h, h < m → c'.2.1 6 h = c.2.1 6 h := h.2.2.2.2.2.2.2.2.2.2.1
theorem MV.c7 {b b' c c' : S9} {g g' : GH} {S m m' d np T wp wp' : Nat} {P : Nat → Prop} (h : MV b b' c c' g g' S m m' d np T wp wp' P) : ∀ h, h < m → ¬ P h → c'.2.1 7 h = c.2.1 7 h := h.2.2.2.2.2.2.2.2.2.2.2.1
theorem MV.c8 {b b' c c' : S9} {g g' : GH} {S m m' d np T wp wp' : Nat} {P : Nat → Prop} (h : MV b b' c c' g g' S m m' d np T wp wp' P) : ∀ h, h < m → c'.2.1 8 h = c.2.1 8 h ∧ c'.2.1 9 h = c.2.1 9 h ∧ c'.2.1 10 h = c.2.1 10 h ∧ c'.2.1 11 h = c.2.1 11 h := h.2.2.2.2.2.2.2.2.2.2.2.2.1
theorem MV.cn {b b' c c' : S9} {g g' : GH} {S m m' d np T wp wp' : Nat} {P : Nat → Prop} (h : MV b b' c c' g g' S m m' d np T wp wp' P) : ∀ h, m ≤ h → h < m' → c'.2.1 10 h = -1 := h.2.2.2.2.2.2.2.2.2.2.2.2.2.1
theorem MV.c12 {b b' c c' : S9} {g g' : GH} {S m m' d np T wp wp' : Nat} {P : Nat → Prop} (h : MV b b' c c' g g' S m m' d np T wp wp' P) : c'.2.1 12 = c.2.1 12 ∧ c'.2.1 13 = c.2.1 13 := h.2.2.2.2.2.2.2.2.2.2.2.2.2.2.1
theorem MV.g0 {b b' c c' : S9} {g g' : GH} {S m m' d np T wp wp' : Nat} {P : Nat → Prop} (h : MV b b' c c' g g' S m m' d np T wp wp' P) : ∀ s, s < S → g' 0 s = g 0 s ∧ g' 2 s = g 2 s ∧ g' 7 s = g 7 s ∧ g' 9 s = g 9 s ∧ g' 10 s = g 10 s := h.2.2.2.2.2.2.2.2.2.2.2.2.2.2.2.1
theorem MV.pd {b b' c c' : S9} {g g' : GH} {S m m' d np T wp wp' : Nat} {P : Nat → Prop} (h : MV b b' c c' g g' S m m' d np T wp wp' P) : ∀ q, q < 26 → b.2.1 13 q = 1 → b'.2.1 13 q = 1 ∧ c'.2.1 14 q = c.2.1 14 q ∧ g' 8 q = g 8 q ∧ b'.2.1 12 q = b.2.1 12 q ∧ c'.2.1 15 q = c.2.1 15 q := h.2.2.2.2.2.2.2.2.2.2.2.2.2.2.2.2.1
theorem MV.pp {b b' c c' : S9} {g g' : GH} {S m m' d np T wp wp' : Nat} {P : Nat → Prop} (h : MV b b' c c' g g' S m m' d np T wp wp' P) : ∀ s, s < S → P (g 0 s) → ¬ b.2.1 2 s = 61 ∧ ¬ b.2.1 2 s = 65 := h.2.2.2.2.2.2.2.2.2.2.2.2.2.2.2.2.2
theorem csg_eq {g g' : GH} {S s : Nat} (h : ∀ s, s < S → g' 10 s = g 10 s) (hs : s ≤ S) : csg g' s = csg g s := by
  unfold csg
  by_cases e : s = 0
  · rw [if_pos e, if_pos e]
  · rw [if_neg e, if_neg e, h (s - 1) (by omega)]
theorem SM_move {b b' c c' : S9} {g g' : GH} {S m m' d d' np np' T wp wp' : Nat} {xo xu xo' xu' : Int32} {P : Nat → Prop} (h : SM b c g S m d np T xo xu wp) (hm : MV b b' c c' g g' S m m' d np T wp wp' P) (hn : NUM b' c' S m' d' np')
    (hst : ST b'.2.1 c'.2.1 g' S m' (OO b'.2.1 d' xo') (UU b'.2.1 d' xu')) (hlv : LVL b'.2.1 c'.2.1 g' S m' d' (owR b'.2.1 d' np')) (hpd : PD b'.2.1 c'.2.1 g' S m' np') (hct : np' = cntD b'.2.1 26) : SM b' c' g' S m' d' np' T xo' xu' wp' := by
  refine ⟨hn, hst, hlv, hpd, hct, fun s hs => ?_, fun s t h1 h2 => ?_, fun s hs => ?_, fun x hx => ?_, h.tl, fun s hs => ?_, fun s hs => ?_⟩
  · obtain ⟨q0, q2, q7, q9, q10⟩ := hm.g0 s hs
    have hs0 := (h.st.2.2.1 s hs).1
    obtain ⟨r1, r2, r3, r4⟩ := hm.c8 _ hs0
    obtain ⟨a1, a2, a3, a4, a5, a6⟩ := h.ss s hs
    have e7 : (b.2.1 2 s = 61 ∨ b.2.1 2 s = 65) → c'.2.1 7 (g 0 s) = c.2.1 7 (g 0 s) := fun z => hm.c7 _ hs0 (fun y => by
      have := hm.pp s hs y
      rcases z with z | z
      · exact this.1 z
      · exact this.2 z)
    unfold SSs
    rw [q0, q2, q9, hm.k2, hm.k3, hm.k4, hm.c6 _ hs0, r3]
    refine ⟨a1, a2, a3, a4, fun z => ?_, fun z => ?_⟩
    · rw [e7 (Or.inl z)]; exact a5 z
    · obtain ⟨q, y1, y2, y3, y4, y5⟩ := a6 z
      obtain ⟨p1, p2, p3, -, -⟩ := hm.pd q y1 y3
      exact ⟨q, y1, y2, p1, by rw [e7 (Or.inr z), p2]; exact y4, by rw [p3]; exact y5⟩
  · rw [(hm.g0 s (by omega)).2.2.2.1, (hm.g0 t h2).2.2.2.1]; exact h.po s t h1 h2
  · rw [(hm.g0 s hs).2.2.2.1]; exact Nat.lt_of_lt_of_le (h.pw s hs) hm.wl
  · by_cases e : x < m
    · rcases h.cp x e with ⟨s, q1, q2⟩ | q
      · exact Or.inl ⟨s, q1, by rw [(hm.g0 s q1).1]; exact q2⟩
      · exact Or.inr (by rw [(hm.c8 x e).2.2.1]; exact q)
    · exact Or.inr (hm.cn x (by omega) hx)
  · have hsS : s < S := Nat.lt_of_lt_of_le hs h.tl
    obtain ⟨q0, q2, q7, q9, q10⟩ := hm.g0 s hsS
    obtain ⟨r1, r2, r3, r4⟩ := hm.c8 _ (h.st.2.2.1 s hsS).1
    have q := h.cd s hs
    unfold CDs at q ⊢
    rw [q0, q10, csg_eq (S := S) (fun s hs => (hm.g0 s hs).2.2.2.2) (by omega), hm.k9, hm.k2, r1, r2, r4, hm.c12.1, hm.c12.2]
    exact q
  · have hsS : s < S := Nat.lt_of_lt_of_le hs h.tl
    rw [(hm.g0 s hsS).2.2.2.2, csg_eq (S := S) (fun s hs => (hm.g0 s hs).2.2.2.2) h.tl]
    exact h.gm s hs
theorem MR_move {b b' c c' : S9} {g g' : GH} {S m m' d np T wp wp' pl : Nat} {P : Nat → Prop} (h : MR b c g S pl) (hm : MV b b' c c' g g' S m m' d np T wp wp' P) (h12 : c'.1 12 = c.1 12) (h10 : b'.2.1 10 = b.2.1 10) (h11 : b'.2.1 11 = b.2.1 11) : MR b' c' g' S pl := by
  refine ⟨h12.trans h.1, ?_, ?_⟩
  · rw [csg_eq (S := S) (fun s hs => (hm.g0 s hs).2.2.2.2) (Nat.le_refl _)]; exact h.2.1
  · rw [hm.c12.1, hm.c12.2, h10, h11]; exact h.2.2
theorem PD_move {b b' c c' : S9} {g g' : GH} {S m m' d np T wp wp' : Nat} {P : Nat → Prop} (h : PD b.2.1 c.2.1 g S m np) (hm : MV b b' c c' g g' S m m' d np T wp wp' P) (h13 : b'.2.1 13 = b.2.1 13) (h15 : c'.2.1 15 = c.2.1 15) : PD b'.2.1 c'.2.1 g' S m' np := by
  intro q hq
  rcases h q hq with ⟨q1, q2⟩ | ⟨q1, q2, q3, e, q4, q5, q6⟩
  · exact Or.inl ⟨by rw [h13]; exact q1, by rw [h15]; exact q2⟩
  · obtain ⟨p1, p2, p3, p4, p5⟩ := hm.pd q hq q1
    refine Or.inr ⟨p1, by rw [p5]; exact q2, by rw [p3]; exact q3, e, by rw [p2]; exact q4, Nat.lt_of_lt_of_le q5 hm.mm, ?_⟩
    rcases q6 with ⟨r1, r2⟩ | ⟨t, r1, r2, r3, r4⟩
    · exact Or.inl ⟨by rw [p4]; exact r1, by rw [hm.c6 e q5]; exact r2⟩
    · exact Or.inr ⟨t, by rw [p4]; exact r1, r2, by rw [(hm.g0 t r2).1]; exact r3, by rw [(hm.g0 t r2).2.1, p3]; exact r4⟩
/-- all levels stay as they are, up to some depth -/
theorem LVL_move {B B' C C' : AR} {g g' : GH} {S m m' d D ow ow' : Nat} (h : LVL B C g S m d ow) (hS : S ≤ 300) (hD : D ≤ d) (how : 1 ≤ D → ow' = ow) (hmm : m ≤ m')
    (hB : ∀ e, e ≤ D → B' 14 e = B 14 e ∧ B' 15 e = B 15 e ∧ B' 16 e = B 16 e) (k2 : B' 2 = B 2) (k5 : B' 5 = B 5) (k6 : B' 6 = B 6) (k7 : B' 7 = B 7) (k8 : B' 8 = B 8) (c6 : ∀ h, h < m → C' 6 h = C 6 h) (g0 : ∀ s, s < S → g' 0 s = g 0 s ∧ g' 2 s = g 2 s ∧ g' 7 s = g 7 s)
    (ho : ∀ e o, 1 ≤ e → e ≤ D → o < S → B 14 e = nI o → g' 6 o = g 6 o ∧ g' 3 o = g 3 o ∧ C' 7 (g 0 o) = C 7 (g 0 o) ∧ (g 6 o = 1 → g' 4 (g 3 o) = g 4 (g 3 o) ∧ g' 5 (g 3 o) = g 5 (g 3 o))) : LVL B' C' g' S m' D ow' := by
  have fi : ∀ o, o < S → FIok B g S o → FIok B' g' S o := fun o ho' q => by
    obtain ⟨t, q1, q2, q3, q4, q5⟩ := q
    exact ⟨t, by rw [k6]; exact q1, q2, q3, by rw [(g0 t q3).1, (g0 o ho').1]; exact q4, by rw [(g0 t q3).2.1, (g0 o ho').2.1]; exact q5⟩
  refine ⟨by rw [(hB 0 (by omega)).1]; exact h.1, fun e h1 h2 => ?_, fun e he => ?_⟩
  · obtain ⟨b14, b15, b16⟩ := hB e h2
    rcases h.2.1 e h1 (by omega) with ⟨q1, q2⟩ | ⟨o, q1, q2, q3, q4, q5⟩
    · subst q1; exact Or.inl ⟨rfl, by rw [b14]; exact q2⟩
    · obtain ⟨a6, a3, a7, a4⟩ := ho e o h1 h2 q2 q1
      refine Or.inr ⟨o, by rw [b14]; exact q1, q2, by rw [(hB (e - 1) (by omega)).2.2]; exact q3, by rw [(g0 o q2).2.1, how (by omega)]; exact q4, ?_⟩
      rcases q5 with ⟨r1, r2, r3, r4, r5, r6⟩ | ⟨r1, r2, r3, r4, r5⟩
      · exact Or.inl ⟨by rw [b15]; exact r1, by rw [k2]; exact r2, by rw [a6]; exact r3, by rw [k7]; exact r4, by rw [b16, k6]; exact r5, by rw [b16]; exact fun z => fi o q2 (r6 z)⟩
      · refine Or.inr ⟨by rw [b15]; exact r1, by rw [k2]; exact r2, ?_, by rw [b16, k7]; exact r4, fun z => ?_⟩
        · obtain ⟨e1, e2, e3, e4, e5, e6, e7, e8⟩ := r3
          obtain ⟨s4, s5⟩ := a4 e1
          refine ⟨by rw [a6]; exact e1, by rw [(g0 o q2).1, a3]; exact e2, by rw [a3]; omega, by rw [a3, c6 _ e3]; exact e4, by rw [a3, s4]; exact e5, by rw [a3, s5]; exact e6, by rw [(g0 o q2).1, a7, a3]; exact e7, ?_⟩
          rcases e8 with ⟨f1, f2⟩ | f
          · exact Or.inl ⟨by rw [k6]; exact f1, by rw [a3, (g0 o q2).1]; exact f2⟩
          · exact Or.inr (fi o q2 f)
        · rw [b16] at z
          obtain ⟨t, y1, y2, y3, y4, y5⟩ := r5 z
          exact ⟨t, by rw [k7]; exact y1, y2, y3, by rw [(g0 t y3).1, a3]; exact y4, by rw [(g0 t y3).2.1, (g0 o q2).2.1]; exact y5⟩
  · obtain ⟨b14, b15, b16⟩ := hB e he
    rcases h.2.2 e (by omega) with q | ⟨l, l1, l2, l3, l4, l5, l6⟩
    · exact Or.inl (by rw [b16]; exact q)
    · refine Or.inr ⟨l, by rw [b16]; exact l1, l2, by rw [k8]; exact l3, by rw [k5, b14]; exact l4, ?_, ?_⟩
      · rw [(g0 l l2).2.1, l5]
        by_cases e0 : e = 0
        · rw [if_pos e0, if_pos e0]
        · rw [if_neg e0, if_neg e0, how (by omega)]
      · rw [b14, b15, (g0 l l2).2.2]; exact l6
theorem MN_move {B B' C C' : AR} {g g' : GH} {S m m' y y' : Nat} (h : MN B C g S m y) (h12 : B' 12 26 = B 12 26) (h16 : B' 16 0 = B 16 0) (g0 : ∀ s, s < S → g' 0 s = g 0 s ∧ g' 2 s = g 2 s) (hJ : ∀ a, JJ C g m 0 a → JJ C' g' m' 0 a) (hy : JJ C' g' m' 0 y → JJ C' g' m' 0 y') : MN B' C' g' S m' y' := by
  rcases h with ⟨q1, q2, q3⟩ | ⟨t, q1, q2, q3, q4, l, q5, q6⟩
  · exact Or.inl ⟨by rw [h16]; exact q1, by rw [h12]; exact q2, hy (hJ _ q3)⟩
  · exact Or.inr ⟨t, by rw [h12]; exact q1, q2, by rw [(g0 t q2).2]; exact q3, by rw [(g0 t q2).1]; exact hJ _ q4, l, by rw [h16]; exact q5, q6⟩
theorem OO_UU2 {b c : S9} {g : GH} {S m d np T wp : Nat} {xo xu : Int32} (h : SM b c g S m d np T xo xu wp) (hS : S ≤ 300) {l : Nat} (hl : l < S) (hx : xo = -1 ∨ (xo = nI l ∧ b.2.1 16 d = nI l)) : ∀ s, s < S → OO b.2.1 d xo s → UU b.2.1 d xu s := fun s hs q =>
  OO_UU h.lv hS hs (fun z => by
    rcases hx with e | ⟨e, e2⟩
    · rw [e] at z; exact absurd z.symm (nIm1 (by omega))
    · have := nIj (by omega) (by omega) (e.symm.trans z)
      subst this; exact Or.inl ⟨d, Nat.le_refl _, e2⟩) q
