/-! ===== blocks are closed ===== -/
theorem w_openP {b c : S9} {g : GH} {S m np pl pr pj wp j : Nat} (h : R6 b c g S m np pl pr pj wp) : R0 (cOpen b 0 (-1) 0) (mOpen c 0 j) g S m 1 np pl pr pj wp ∧ BS (cOpen b 0 (-1) 0).2.1 g pj pr 1 = (2, 0) :: (18, nI (32 * pj + pr)) :: BS b.2.1 g pj pr 0 := by
  obtain ⟨n1, n2, n3, n4, n5, n6, n7, n8, n9, n10, n11⟩ := h.sm.num
  have hnum : NUM (cOpen b 0 (-1) 0) (mOpen c 0 j) S m 1 np := ⟨n1, n2, n3, rfl, rfl, by omega, n7, n8, n9, n10, n11⟩
  have n14 : (cOpen b 0 (-1) 0).2.1 14 1 = -1 := rfl
  have n16 : (cOpen b 0 (-1) 0).2.1 16 1 = -1 := rfl
  have hi : inD (cOpen b 0 (-1) 0).2.1 1 := ⟨Nat.le_refl _, n14⟩
  have hjm := h.jm
  have hsm' := SM_open (c' := mOpen c 0 j) h.sm (by omega) rfl hnum (fun t ht => Iff.rfl) (fun z => by omega) (Or.inl ⟨rfl, n14⟩)
  refine ⟨⟨hsm', MR_eq h.mr rfl rfl rfl rfl rfl, ⟨fun z => by omega, fun _ => ⟨fun l hl z => by rw [n16] at z; exact absurd z.symm (nIm1 (by omega)), fun _ => ⟨fun _ => ?_, fun o ho z => by rw [n14] at z; exact absurd z.symm (nIm1 (by omega))⟩⟩⟩, ⟨fun _ => ?_, fun z => absurd hi z⟩, ?_, h.o7⟩, ?_⟩
  · show c.2.1 14 pr = nI m
    rw [h.en, hjm]
  · refine ⟨h.p8, h.pl6, h.nd, h.en, by omega, h.jc, h.jk, ?_, fun l hl h0 => ⟨h.ml l hl h0, fun y => ?_⟩, Or.inl ⟨n16, h.fs⟩, h.ot, h.ue⟩
    · exact MN_move h.mn rfl rfl (fun _ _ => ⟨rfl, rfl⟩) (fun _ q => q) (fun q => q)
    · rcases y with ⟨e, y1, y2, y3⟩ | y
      · have e1 : e = 1 := by omega
        subst e1; rw [n14] at y3; exact absurd y3.symm (nIm1 (by omega))
      · exact absurd y.symm (nIm1 (by omega))
  · unfold RM
    rw [if_pos hi]
    show m + (0 + _) + 0 ≤ _
    rw [if_pos (Or.inl n14)]
    have := h.rm
    omega
  · show (2, 0) :: ctxT (cOpen b 0 (-1) 0).2.1 g (32 * pj + pr) 1 :: [(1, 0)] = _
    unfold ctxT
    rw [if_pos n14]; rfl
def cDown (b : S9) (d : Nat) (aw : Int32) : S9 := sF (sF b 6 (nI d)) 7 aw
def mDown (c : S9) (d j : Nat) : S9 := sF (sF c 3 (nI (j + 1))) 6 (nI d)
/-- a block of s has been closed, s not yet -/
def RD (b c : S9) (g : GH) (S m d np pl pr pj wp s el : Nat) (xu : Int32) : Prop := (SM b c g S m d np S (nI s) xu wp) ∧ (MR b c g S pl) ∧ (DF b c g S m d np pr pj (nI s)) ∧ (RM b.2.1 S m d np (if el = 0 then 1 else 0)) ∧ (c.1 7 = 0) ∧ (s < S) ∧ (b.2.1 16 d = nI s) ∧ ((xu = -1 ∧ b.2.1 16 (d + 1) = -1 ∧ (el = 0 → g 0 s + 1 = m) ∧ (el = 1 → g 3 s + 1 = m)) ∨ (¬ b.2.1 16 (d + 1) = -1 ∧ ∃ t : Nat, xu = nI t ∧ t < S ∧ b.2.1 8 t = -1 ∧ b.2.1 5 t = nI s ∧ s < t ∧ g 2 t = g 2 s ∧ g 7 t = el ∧ g 1 t = m)) ∧ (OPN b.2.1 c.2.1 g S m (d + 1) s) ∧ ((el = 0 ∧ b.2.1 15 (d + 1) = 0) ∨ (el = 1 ∧ b.2.1 15 (d + 1) = 1))
theorem RD.sm {b c : S9} {g : GH} {S m d np pl pr pj wp s el : Nat} {xu : Int32} (h : RD b c g S m d np pl pr pj wp s el xu) : SM b c g S m d np S (nI s) xu wp := h.1
theorem RD.mr {b c : S9} {g : GH} {S m d np pl pr pj wp s el : Nat} {xu : Int32} (h : RD b c g S m d np pl pr pj wp s el xu) : MR b c g S pl := h.2.1
theorem RD.df {b c : S9} {g : GH} {S m d np pl pr pj wp s el : Nat} {xu : Int32} (h : RD b c g S m d np pl pr pj wp s el xu) : DF b c g S m d np pr pj (nI s) := h.2.2.1
theorem RD.rm {b c : S9} {g : GH} {S m d np pl pr pj wp s el : Nat} {xu : Int32} (h : RD b c g S m d np pl pr pj wp s el xu) : RM b.2.1 S m d np (if el = 0 then 1 else 0) := h.2.2.2.1
theorem RD.o7 {b c : S9} {g : GH} {S m d np pl pr pj wp s el : Nat} {xu : Int32} (h : RD b c g S m d np pl pr pj wp s el xu) : c.1 7 = 0 := h.2.2.2.2.1
theorem RD.sl {b c : S9} {g : GH} {S m d np pl pr pj wp s el : Nat} {xu : Int32} (h : RD b c g S m d np pl pr pj wp s el xu) : s < S := h.2.2.2.2.2.1
theorem RD.ls {b c : S9} {g : GH} {S m d np pl pr pj wp s el : Nat} {xu : Int32} (h : RD b c g S m d np pl pr pj wp s el xu) : b.2.1 16 d = nI s := h.2.2.2.2.2.2.1
theorem RD.cl {b c : S9} {g : GH} {S m d np pl pr pj wp s el : Nat} {xu : Int32} (h : RD b c g S m d np pl pr pj wp s el xu) : (xu = -1 ∧ b.2.1 16 (d + 1) = -1 ∧ (el = 0 → g 0 s + 1 = m) ∧ (el = 1 → g 3 s + 1 = m)) ∨ (¬ b.2.1 16 (d + 1) = -1 ∧ ∃ t : Nat, xu = nI t ∧ t < S ∧ b.2.1 8 t = -1 ∧ b.2.1 5 t = nI s ∧ s < t ∧ g 2 t = g 2 s ∧ g 7 t = el ∧ g 1 t = m) := h.2.2.2.2.2.2.2.1
theorem RD.op {b c : S9} {g : GH} {S m d np pl pr pj wp s el : Nat} {xu : Int32} (h : RD b c g S m d np pl pr pj wp s el xu) : OPN b.2.1 c.2.1 g S m (d + 1) s := h.2.2.2.2.2.2.2.2.1
theorem RD.e15 {b c : S9} {g : GH} {S m d np pl pr pj wp s el : Nat} {xu : Int32} (h : RD b c g S m d np pl pr pj wp s el xu) : (el = 0 ∧ b.2.1 15 (d + 1) = 0) ∨ (el = 1 ∧ b.2.1 15 (d + 1) = 1) := h.2.2.2.2.2.2.2.2.2
theorem owR_down {B : AR} {d np : Nat} (hd : 1 ≤ d) : owR B d np = owR B (d + 1) np := by
  unfold owR
  by_cases z : inD B d
  · rw [if_pos z, if_pos ⟨by omega, z.2⟩]
  · rw [if_neg z, if_neg (fun y => z ⟨hd, y.2⟩)]
theorem SM_down {b b' c c' : S9} {g : GH} {S m d np T wp wp' : Nat} (h : SM b c g S m (d + 1) np T (-1) (-1) wp) (hB : b'.2.1 = b.2.1) (hC : c'.2.1 = c.2.1) (hn : NUM b' c' S m d np) (hwp : wp ≤ wp') : SM b' c' g S m d np T (b.2.1 14 (d + 1)) (b.2.1 16 (d + 1)) wp' := by
  have hS := h.num.2.1
  obtain ⟨h1, h2, h3, h4, h5, h6, h7, h8, h9, h10, h11, h12⟩ := h
  have hl := LVL_move (B' := b.2.1) (C' := c.2.1) (g' := g) (m' := m) (ow' := owR b.2.1 d np) (D := d) h3 hS (by omega) (fun z => owR_down z) (Nat.le_refl _) (fun e he => ⟨rfl, rfl, rfl⟩) rfl rfl rfl rfl rfl (fun _ _ => rfl) (fun _ _ => ⟨rfl, rfl, rfl⟩) (fun _ _ _ _ _ _ => ⟨rfl, rfl, rfl, fun _ => ⟨rfl, rfl⟩⟩)
  refine ⟨hn, ?_, by rw [hB, hC]; exact hl, by rw [hB, hC]; exact h4, by rw [hB]; exact h5, by rw [hB, hC]; exact h6, h7, fun s hs => Nat.lt_of_lt_of_le (h8 s hs) hwp, by rw [hC]; exact h9, h10, by rw [hB, hC]; exact h11, h12⟩
  rw [hB, hC]
  refine ST_sets h2 (fun s hs => ⟨fun z => ?_, fun z => ?_⟩) (fun s hs => ⟨fun z => ?_, fun z => ?_⟩)
  · rcases z with ⟨e, e1, e2, e3⟩ | z
    · exact Or.inl ⟨e, e1, by omega, e3⟩
    · exact Or.inl ⟨d + 1, by omega, Nat.le_refl _, z⟩
  · rcases z with ⟨e, e1, e2, e3⟩ | z
    · by_cases ee : e = d + 1
      · subst ee; exact Or.inr e3
      · exact Or.inl ⟨e, e1, by omega, e3⟩
    · exact absurd z.symm (nIm1 (by omega))
  · rcases z with ⟨e, e1, e2⟩ | z
    · exact Or.inl ⟨e, by omega, e2⟩
    · exact Or.inl ⟨d + 1, Nat.le_refl _, z⟩
  · rcases z with ⟨e, e1, e2⟩ | z
    · by_cases ee : e = d + 1
      · subst ee; exact Or.inr e2
      · exact Or.inl ⟨e, by omega, e2⟩
    · exact absurd z.symm (nIm1 (by omega))
theorem w_down {b c : S9} {g : GH} {S m d np pl pr pj p j s : Nat} {aw : Int32} (h : R0 b c g S m (d + 1) np pl pr pj p) (hs : s < S) (ho : b.2.1 14 (d + 1) = nI s) :
    ∃ (el : Nat), RD (cDown b d aw) (mDown c d j) g S m d np pl pr pj (p + 1) s el (b.2.1 16 (d + 1)) := by
  obtain ⟨n1, n2, n3, n4, n5, n6, n7, n8, n9, n10, n11⟩ := h.sm.num
  have hns : ¬ nI s = -1 := nIm1 (by omega)
  have hsm := SM_down (b' := cDown b d aw) (c' := mDown c d j) (wp' := p + 1) h.sm rfl rfl ⟨n1, n2, n3, rfl, rfl, by omega, n7, n8, n9, n10, n11⟩ (by omega)
  rw [ho] at hsm
  obtain ⟨hls, hop, ho2⟩ : b.2.1 16 d = nI s ∧ OPN b.2.1 c.2.1 g S m (d + 1) s ∧ g 2 s = owR b.2.1 (d + 1) np := by
    rcases h.sm.lv.2.1 (d + 1) (by omega) (Nat.le_refl _) with ⟨q1, q2⟩ | ⟨o, q1, q2, q3, q4, q5⟩
    · have e : d = 0 := by omega
      subst e
      rw [ho] at q2; exact absurd q2 hns
    · have e := nIj (by omega) (by omega) (q1.symm.trans ho)
      subst e; exact ⟨q3, q5, q4⟩
  have hin : inD b.2.1 d ↔ inD b.2.1 (d + 1) := by
    by_cases e : d = 0
    · subst e
      exact ⟨fun z => by have := z.1; omega, fun z => by have := z.2; rw [ho] at this; exact absurd this hns⟩
    · exact ⟨fun z => ⟨by omega, z.2⟩, fun z => ⟨by omega, z.2⟩⟩
  have h15 := OPN_15 hop
  obtain ⟨pnl, pne⟩ := h.pn.2 (by omega)
  obtain ⟨el, hel⟩ : ∃ el : Nat, (el = 0 ∧ b.2.1 15 (d + 1) = 0) ∨ (el = 1 ∧ b.2.1 15 (d + 1) = 1) := h15.elim (fun q => ⟨0, Or.inl ⟨rfl, q⟩⟩) (fun q => ⟨1, Or.inr ⟨rfl, q⟩⟩)
  refine ⟨el, hsm, MR_eq h.mr rfl rfl rfl rfl rfl, ⟨fun z => ?_, fun z => ?_⟩, ?_, h.o7, hs, hls, ?_, hop, hel⟩
  · obtain ⟨i1, i2, i3, i4, i5, i6, i7, i8, i9, i10, i11, i12⟩ := h.df.1 (hin.mp z)
    refine ⟨i1, i2, i3, i4, i5, i6, i7, i8, fun l hl h0 => ⟨(i9 l hl h0).1, fun y => (i9 l hl h0).2 ?_⟩, i10, i11, i12⟩
    rcases y with ⟨e, y1, y2, y3⟩ | y
    · exact Or.inl ⟨e, y1, by omega, y3⟩
    · exact Or.inl ⟨d + 1, by omega, Nat.le_refl _, ho.trans y⟩
  · exact h.df.2 (fun y => z (hin.mpr y))
  · have hr := h.rm
    unfold RM at hr ⊢
    have e : cntL b.2.1 (d + 1) = cntL b.2.1 d + (if el = 0 then 1 else 0) := by
      show cntL b.2.1 d + _ = _
      rcases hel with ⟨e1, e2⟩ | ⟨e1, e2⟩
      · rw [if_neg (fun z => z.elim (fun y => hns (ho.symm.trans y)) (fun y => y e2)), if_pos e1]
      · rw [if_pos (Or.inr (by rw [e2]; decide)), if_neg (by omega)]
    rw [show (cDown b d aw).2.1 = b.2.1 from rfl]
    by_cases z : inD b.2.1 d
    · rw [if_pos (hin.mp z)] at hr; rw [if_pos z]; omega
    · rw [if_neg (fun y => z (hin.mpr y))] at hr; rw [if_neg z]; omega
  · by_cases hl : b.2.1 16 (d + 1) = -1
    · obtain ⟨q1, q2⟩ := (pne hl).2 s hs ho
      refine Or.inl ⟨hl, hl, fun e => q1 ?_, fun e => q2 ?_⟩
      · rcases hel with ⟨-, q⟩ | ⟨q, -⟩
        · exact q
        · omega
      · rcases hel with ⟨q, -⟩ | ⟨-, q⟩
        · omega
        · exact q
    · rcases h.sm.lv.2.2 (d + 1) (Nat.le_refl _) with q | ⟨l, l1, l2, l3, l4, l5, l6⟩
      · exact absurd q hl
      · obtain ⟨f1, f2⟩ := l6 (by omega) s hs ho
        refine Or.inr ⟨hl, l, l1, l2, l3, l4.trans ho, f1, ?_, ?_, pnl l l2 l1⟩
        · rw [l5, if_neg (by omega)]; exact ho2.symm
        · rw [f2]
          rcases hel with ⟨e1, e2⟩ | ⟨e1, e2⟩
          · rw [if_pos e2]; exact e1.symm
          · rw [if_neg (by rw [e2]; decide)]; exact e1.symm
/-- a first block: an else may follow -/
theorem w_close1 {b c : S9} {g : GH} {S m d np pl pr pj p s el : Nat} {xu : Int32} (h : RD b c g S m d np pl pr pj p s el xu) (he : el = 0) (hk : b.2.1 2 s = 63) : R1 b c g S m d np pl pr pj p s xu := by
  have h15 : b.2.1 15 (d + 1) = 0 := by
    rcases h.e15 with ⟨-, q⟩ | ⟨q, -⟩
    · exact q
    · omega
  obtain ⟨o1, o2, o3, o4, o5, o6⟩ : b.2.1 15 (d + 1) = 0 ∧ (b.2.1 2 s = 63 ∨ b.2.1 2 s = 42) ∧ g 6 s = 0 ∧ b.2.1 7 s = -1 ∧ (b.2.1 16 (d + 1) = -1 → b.2.1 6 s = -1) ∧ (¬ b.2.1 16 (d + 1) = -1 → FIok b.2.1 g S s) := by
    rcases h.op with q | ⟨q, -⟩
    · exact q
    · rw [h15] at q; exact absurd q (by decide)
  have hrm := h.rm
  rw [if_pos he] at hrm
  refine ⟨h.sm, h.mr, h.df, hrm, h.o7, h.sl, h.ls, hk, o3, o4, ?_⟩
  rcases h.cl with ⟨q1, q2, q3, -⟩ | ⟨q0, t, q1, q2, q3, q4, q5, q6, q7, q8⟩
  · exact Or.inl ⟨q1, o5 q2, q3 he⟩
  · exact Or.inr ⟨t, q1, q2, q3, q4, q5, q6, by rw [q7]; exact he, q8, o6 q0⟩
/-- a loop's block -/
def mRound (c : S9) (h m : Nat) : S9 := sA (mCode c 11 (nI h) (-1) m) 7 (upd (upd (c.2.1 7) m (nI h)) h (nI (m + 1)))
theorem w_close2 {b c : S9} {g : GH} {S m d np pl pr pj p s el : Nat} {xu : Int32} (h : RD b c g S m d np pl pr pj p s el xu) (hk : b.2.1 2 s = 42) :
    ∃ (g' : GH), R0 b (mRound c (g 0 s) m) g' S (m + 1) d np pl pr pj p ∧ BS b.2.1 g' pj pr d = BS b.2.1 g pj pr d ∧ g 0 s < 1200 ∧ m < 1200 := by
  obtain ⟨n1, n2, n3, n4, n5, n6, n7, n8, n9, n10, n11⟩ := h.sm.num
  have hm := RM_m h.rm n2 n9
  have hsl := h.sl
  have hst0 := h.sm.st
  have hg0 := (hst0.2.2.1 s hsl).1
  have hOs : OO b.2.1 d (nI s) s := Or.inr rfl
  obtain ⟨o1, o2, o3, o4, o5, o6⟩ : b.2.1 15 (d + 1) = 0 ∧ (b.2.1 2 s = 63 ∨ b.2.1 2 s = 42) ∧ g 6 s = 0 ∧ b.2.1 7 s = -1 ∧ (b.2.1 16 (d + 1) = -1 → b.2.1 6 s = -1) ∧ (¬ b.2.1 16 (d + 1) = -1 → FIok b.2.1 g S s) := by
    rcases h.op with q | ⟨-, q, -⟩
    · exact q
    · rw [hk] at q; exact absurd q (by decide)
  have he : el = 0 := by
    rcases h.e15 with ⟨q, -⟩ | ⟨-, q⟩
    · exact q
    · rw [o1] at q; exact absurd q (by decide)
  obtain ⟨g', hg'⟩ : ∃ g', g' = gu (gu g 1 s (m + 1)) 4 m 1 := ⟨_, rfl⟩
  have k0 : ∀ k i, k ≠ 1 → k ≠ 4 → g' k i = g k i := fun k i e1 e2 => by rw [hg', gu_k e2, gu_k e1]
  have k1 : ∀ i, i ≠ s → g' 1 i = g 1 i := fun i hi => by rw [hg', gu_k (by decide), gu_i hi]
  have k1s : g' 1 s = m + 1 := by rw [hg', gu_k (by decide), gu_s]
  have k4 : ∀ i, i ≠ m → g' 4 i = g 4 i := fun i hi => by rw [hg', gu_i hi, gu_k (by decide)]
  have k4m : g' 4 m = 1 := by rw [hg', gu_s]
  have z0 : ∀ i, g' 0 i = g 0 i := fun i => k0 0 i (by decide) (by decide)
  have z2 : ∀ i, g' 2 i = g 2 i := fun i => k0 2 i (by decide) (by decide)
  have z7 : ∀ i, g' 7 i = g 7 i := fun i => k0 7 i (by decide) (by decide)
  have z6 : ∀ i, g' 6 i = g 6 i := fun i => k0 6 i (by decide) (by decide)
  have z3 : ∀ i, g' 3 i = g 3 i := fun i => k0 3 i (by decide) (by decide)
  have z5 : ∀ i, g' 5 i = g 5 i := fun i => k0 5 i (by decide) (by decide)
  have C7 : ∀ x, x < m → ¬ x = g 0 s → (mRound c (g 0 s) m).2.1 7 x = c.2.1 7 x := fun x hx hn => by
    show upd (upd (c.2.1 7) m _) (g 0 s) _ x = _
    rw [pk_un hn, pk_un (by omega)]
  have C7m : (mRound c (g 0 s) m).2.1 7 m = nI (g 0 s) := by
    show upd (upd (c.2.1 7) m _) (g 0 s) _ m = _
    rw [pk_un (by omega), pk_us]
  have C6m : (mRound c (g 0 s) m).2.1 6 m = 11 := pk_us
  have hmv : MV b b c (mRound c (g 0 s) m) g g' S m (m + 1) d np S p p (fun x => x = g 0 s) := by
    refine ⟨by omega, Nat.le_refl _, rfl, rfl, rfl, rfl, rfl, rfl, rfl, rfl, fun x hx => pk_un (by omega), C7, fun x hx => ⟨pk_un (by omega), pk_un (by omega), pk_un (by omega), pk_un (by omega)⟩, fun x h1 h2 => ?_, ⟨rfl, rfl⟩, fun t ht => ⟨z0 t, z2 t, z7 t, k0 9 t (by decide) (by decide), k0 10 t (by decide) (by decide)⟩, fun q hq h1 => ⟨h1, rfl, k0 8 q (by decide) (by decide), rfl, rfl⟩, fun t ht e => ?_⟩
    · have e : x = m := by omega
      subst e; exact pk_us
    · have := g0_inj hst0 ht hsl e
      subst this
      rw [hk]; exact ⟨by decide, by decide⟩
  have hag : AG b.2.1 b.2.1 c.2.1 (mRound c (g 0 s) m).2.1 g g' S m (OO b.2.1 d (nI s)) (UU b.2.1 d xu) := by
    refine AG_of hst0 hmv (fun t ht ho => ⟨k1 t (fun e => ho (by rw [e]; exact hOs)), z6 t⟩) (fun t ht z => ⟨by rw [z6]; exact z, z3 t⟩) (fun x hx _ => k4 x (by omega)) (fun x hx _ => z5 x) (fun x hx e => ?_) (fun t ht ho => ⟨fun e => ?_, fun z e => ?_⟩)
    · rw [e, (hst0.2.2.1 s hsl).2]; omega
    · exact ho (by rw [g0_inj hst0 ht hsl e]; exact hOs)
    · rcases hst0.2.1 t ht with q | q
      · exact ho q
      · have := (CLP_jp q z).2.2.2.2.1
        rw [e, (hst0.2.2.1 s hsl).2] at this
        omega
  have nop : ∀ e, 1 ≤ e → e ≤ d → ¬ b.2.1 14 e = nI s := fun e h1 h2 => no_opener h.sm h.df n2 hsl h.ls h1 h2
  have nOs : ¬ OO b.2.1 d (-1) s := fun z => by
    rcases z with ⟨e, h1, h2, h3⟩ | z
    · exact nop e h1 h2 h3
    · exact nIm1 (by omega) z.symm
  have hst := ST_step (O' := OO b.2.1 d (-1)) (U' := UU b.2.1 d (-1)) hst0 hag (m' := m + 1) (by omega) (fun t ht z => by
      rcases z with z | z
      · exact Or.inl z
      · exact absurd z.symm (nIm1 (by omega))) (OO_UU2 h.sm n2 hsl (Or.inr ⟨rfl, h.ls⟩)) (fun t ht z => by
      rcases z with z | z
      · exact Or.inl (Or.inl z)
      · rcases h.cl with ⟨e, -⟩ | ⟨-, t', e, q1, q2, q3, q4, q5, q6, q7⟩
        · rw [e] at z; exact absurd z.symm (nIm1 (by omega))
        · have e2 := nIj (by omega) (by omega) (e.symm.trans z)
          subst e2
          have e1 : g' 1 t' = m := by rw [k1 t' (by omega)]; exact q7
          exact Or.inr (Or.inr ⟨q2, Or.inr ⟨s, q3, q4, by rw [z2, z2]; exact q5.symm, Or.inl ⟨hk, by rw [e1]; omega, by rw [e1]; exact C6m, by rw [e1]; exact k4m, by rw [e1, z0]; exact C7m⟩⟩⟩)) (fun t ht z => by
      rcases z with z | z
      · exact Or.inl (Or.inl z)
      · have e2 := nIj (by omega) (by omega) z
        subst e2
        refine Or.inr ⟨by rw [k1s]; omega, Or.inl ⟨hk, by rw [z6]; exact o3, by rw [z0, k1s]; exact pk_us, ?_⟩⟩
        rcases h.cl with ⟨-, q1, q2, -⟩ | ⟨q1, -⟩
        · have e3 := q2 he
          exact Or.inl ⟨o5 q1, by rw [z0]; omega, by rw [z0, e3]; exact C6m, by rw [z0, e3]; exact k4m, by rw [z0, e3]; exact C7m⟩
        · obtain ⟨t, y1, y2, y3, y4, y5⟩ := o6 q1
          exact Or.inr ⟨t, y1, y2, y3, by rw [z0, z0]; exact y4, by rw [z2, z2]; exact y5⟩) (fun t ht => by
      have := (hst0.2.2.1 t ht)
      rw [z0, k4 _ (by omega)]; exact this.2)
  have hlv := LVL_move (B' := b.2.1) (C' := (mRound c (g 0 s) m).2.1) (g' := g') (m' := m + 1) h.sm.lv n2 (Nat.le_refl _) (fun _ => rfl) (by omega) (fun _ _ => ⟨rfl, rfl, rfl⟩) rfl rfl rfl rfl rfl hmv.c6 (fun s hs => ⟨z0 s, z2 s, z7 s⟩) (fun e o h1 h2 h3 h4 => by
      have hne : o ≠ s := fun z => nop e h1 h2 (by rw [← z]; exact h4)
      refine ⟨z6 o, z3 o, C7 _ (hst0.2.2.1 o h3).1 (fun z => hne (g0_inj hst0 h3 hsl z)), fun z => ?_⟩
      rcases lv15 h.sm h1 h2 with ⟨q, -⟩ | ⟨o', q1, q2, -, q3⟩
      · rw [h4] at q; exact absurd q (nIm1 (by omega))
      · have e2 := nIj (by omega) (by omega) (q2.symm.trans h4)
        subst e2
        rcases q3 with ⟨-, -, r, -⟩ | ⟨-, -, r, -⟩
        · omega
        · have := r.2.2.1
          exact ⟨k4 _ (by omega), z5 _⟩)
  have hn : NUM b (mRound c (g 0 s) m) S (m + 1) d np := ⟨n1, n2, n3, n4, n5, n6, n7, n8, n9, rfl, n11⟩
  have hsm := SM_move h.sm hmv hn hst hlv (PD_move h.sm.pd hmv rfl rfl) h.sm.cnt
  have gn : ∀ x, x < m + 1 → g' 4 x = 4 → x < m ∧ g 4 x = 4 := fun x hx z4 => by
    by_cases e : x = m
    · rw [e, k4m] at z4; omega
    · rw [k4 x e] at z4; exact ⟨by omega, z4⟩
  have hdf : DF b (mRound c (g 0 s) m) g' S (m + 1) d np pr pj (-1) := by
    refine ⟨fun z => ?_, fun z => ?_⟩
    · have i := h.df.1 z
      refine DI_move i hmv hag rfl rfl rfl rfl (fun _ _ => rfl) (fun l hl h0 => ?_) gn (by rw [k4 pj (by have := i.jm; omega)]; exact i.jk)
      have q := (i.ml l hl h0).2
      exact ⟨k1 l (fun e => q (by rw [e]; exact hOs)), fun y => q (by
        rcases y with y | y
        · exact Or.inl y
        · exact absurd y.symm (nIm1 (by omega)))⟩
    · exact DN_move (h.df.2 z) hmv hag rfl rfl rfl rfl gn
  have hrm : RM b.2.1 S (m + 1) d np 0 := by
    have := h.rm
    rw [if_pos he] at this
    unfold RM at this ⊢
    omega
  refine ⟨g', ⟨hsm, MR_move h.mr hmv rfl rfl rfl, PN0_last hdf n2 hsl h.ls k1s, hdf, hrm, h.o7⟩, ?_, by omega, by omega⟩
  exact BS_eq h.sm n2 (Nat.le_refl _) (fun _ _ _ => rfl) (fun _ _ _ => rfl) (fun _ _ => rfl) (fun _ _ => z0 _) (fun _ _ _ _ _ _ _ => z3 _)
/-- a second block -/
theorem w_close3 {b c : S9} {g : GH} {S m d np pl pr pj p s el : Nat} {xu : Int32} (h : RD b c g S m d np pl pr pj p s el xu) (he : el = 1) :
    ∃ (g' : GH), R0 b (mTgt c (g 3 s) m) g' S m d np pl pr pj p ∧ BS b.2.1 g' pj pr d = BS b.2.1 g pj pr d ∧ g 3 s < 1200 := by
  obtain ⟨n1, n2, n3, n4, n5, n6, n7, n8, n9, n10, n11⟩ := h.sm.num
  have hm := RM_m h.rm n2 n9
  have hsl := h.sl
  have hst0 := h.sm.st
  have hg0 := (hst0.2.2.1 s hsl).1
  have hOs : OO b.2.1 d (nI s) s := Or.inr rfl
  have h15 : b.2.1 15 (d + 1) = 1 := by
    rcases h.e15 with ⟨q, -⟩ | ⟨-, q⟩
    · omega
    · exact q
  obtain ⟨o1, o2, o3, o4, o5⟩ : b.2.1 15 (d + 1) = 1 ∧ b.2.1 2 s = 63 ∧ ELok b.2.1 c.2.1 g S m s ∧ (b.2.1 16 (d + 1) = -1 → b.2.1 7 s = -1) ∧ (¬ b.2.1 16 (d + 1) = -1 → SEok b.2.1 g S s) := by
    rcases h.op with ⟨q, -⟩ | q
    · rw [h15] at q; exact absurd q (by decide)
    · exact q
  obtain ⟨e1, e2, e3, e4, e5, e6, e7, e8⟩ := o3
  have n3ne : ∀ t, t < S → ¬ g 0 t = g 3 s := fun t ht z => by
    have := (hst0.2.2.1 t ht).2
    rw [z, e5] at this; omega
  have hmv : MV b b c (mTgt c (g 3 s) m) g (gu g 1 s m) S m m d np S p p (fun x => x = g 3 s) :=
    ⟨Nat.le_refl _, Nat.le_refl _, rfl, rfl, rfl, rfl, rfl, rfl, rfl, rfl, fun _ _ => rfl, fun x hx hn => pk_un hn, fun _ _ => ⟨rfl, rfl, rfl, rfl⟩, fun x h1 h2 => by omega, ⟨rfl, rfl⟩, fun t ht => ⟨gu_k (by decide), gu_k (by decide), gu_k (by decide), gu_k (by decide), gu_k (by decide)⟩, fun q hq h1 => ⟨h1, rfl, gu_k (by decide), rfl, rfl⟩, fun t ht e => absurd e (n3ne t ht)⟩
  have hag : AG b.2.1 b.2.1 c.2.1 (mTgt c (g 3 s) m).2.1 g (gu g 1 s m) S m (OO b.2.1 d (nI s)) (UU b.2.1 d xu) := by
    refine AG_of hst0 hmv (fun t ht ho => ⟨gu_i (fun e => ho (by rw [e]; exact hOs)), gu_k (by decide)⟩) (fun t ht z => ⟨by rw [gu_k (by decide)]; exact z, gu_k (by decide)⟩) (fun x hx _ => gu_k (by decide)) (fun x hx _ => gu_k (by decide)) (fun x hx e => ?_) (fun t ht ho => ⟨n3ne t ht, fun z e => ?_⟩)
    · rw [e, e5]; omega
    · rcases hst0.2.1 t ht with q | q
      · exact ho q
      · have := (CLP_jp q z).2.2.2.2.2.1
        rw [e, e6] at this
        exact ho (by rw [← this]; exact hOs)
  have nop : ∀ e, 1 ≤ e → e ≤ d → ¬ b.2.1 14 e = nI s := fun e h1 h2 => no_opener h.sm h.df n2 hsl h.ls h1 h2
  have nOs : ¬ OO b.2.1 d (-1) s := fun z => by
    rcases z with ⟨e, h1, h2, h3⟩ | z
    · exact nop e h1 h2 h3
    · exact nIm1 (by omega) z.symm
  have z2 : ∀ i, gu g 1 s m 2 i = g 2 i := fun i => gu_k (by decide)
  have z0 : ∀ i, gu g 1 s m 0 i = g 0 i := fun i => gu_k (by decide)
  have z3 : ∀ i, gu g 1 s m 3 i = g 3 i := fun i => gu_k (by decide)
  have hst := ST_step (O' := OO b.2.1 d (-1)) (U' := UU b.2.1 d (-1)) hst0 hag (m' := m) (Nat.le_refl _) (fun t ht z => by
      rcases z with z | z
      · exact Or.inl z
      · exact absurd z.symm (nIm1 (by omega))) (OO_UU2 h.sm n2 hsl (Or.inr ⟨rfl, h.ls⟩)) (fun t ht z => by
      rcases z with z | z
      · exact Or.inl (Or.inl z)
      · rcases h.cl with ⟨e, -⟩ | ⟨-, t', e, q1, q2, q3, q4, q5, q6, q7⟩
        · rw [e] at z; exact absurd z.symm (nIm1 (by omega))
        · have e2 := nIj (by omega) (by omega) (e.symm.trans z)
          subst e2
          refine Or.inr (Or.inr ⟨q2, Or.inr ⟨s, q3, q4, by rw [z2, z2]; exact q5.symm, Or.inr ⟨o2, Or.inr ⟨nOs, Or.inr ?_, ?_⟩⟩⟩⟩)
          · rw [gu_k (show (7 : Nat) ≠ 1 by decide), q6]; exact he
          · rw [gu_i (by omega), gu_s]; exact q7) (fun t ht z => by
      rcases z with z | z
      · exact Or.inl (Or.inl z)
      · have e9 := nIj (by omega) (by omega) z
        subst e9
        refine Or.inr ⟨by rw [gu_s]; omega, Or.inr (Or.inr (Or.inl ⟨o2, ?_, ?_, ?_⟩))⟩
        · refine ⟨by rw [gu_k (show (6 : Nat) ≠ 1 by decide)]; exact e1, by rw [z0, z3]; exact e2, by rw [z3]; exact e3, by rw [z3]; exact e4, by rw [z3, gu_k (by decide)]; exact e5, by rw [z3, gu_k (by decide)]; exact e6, by rw [z0, z3]; exact (pk_un (n3ne s hsl)).trans e7, ?_⟩
          rcases e8 with ⟨f1, f2⟩ | ⟨t, y1, y2, y3, y4, y5⟩
          · exact Or.inl ⟨f1, by rw [z0, z3]; exact f2⟩
          · exact Or.inr ⟨t, y1, y2, y3, by rw [z0, z0]; exact y4, by rw [z2, z2]; exact y5⟩
        · rw [z3, gu_s]; exact pk_us
        · rw [gu_s, z3]
          rcases h.cl with ⟨-, q1, -, q2⟩ | ⟨q1, -⟩
          · exact Or.inl ⟨o4 q1, (q2 he).symm⟩
          · obtain ⟨t, y1, y2, y3, y4, y5⟩ := o5 q1
            exact Or.inr ⟨t, y1, y2, y3, by rw [z0, z3]; exact y4, by rw [z2, z2]; exact y5⟩) (fun t ht => by
      rw [z0, gu_k (show (4 : Nat) ≠ 1 by decide)]; exact (hst0.2.2.1 t ht).2)
  have hlv := LVL_move (B' := b.2.1) (C' := (mTgt c (g 3 s) m).2.1) (g' := gu g 1 s m) (m' := m) h.sm.lv n2 (Nat.le_refl _) (fun _ => rfl) (Nat.le_refl _) (fun _ _ => ⟨rfl, rfl, rfl⟩) rfl rfl rfl rfl rfl hmv.c6 (fun s hs => ⟨gu_k (by decide), gu_k (by decide), gu_k (by decide)⟩) (fun e o h1 h2 h3 h4 => ⟨gu_k (by decide), gu_k (by decide), pk_un (n3ne o h3), fun _ => ⟨gu_k (by decide), gu_k (by decide)⟩⟩)
  have hn : NUM b (mTgt c (g 3 s) m) S m d np := ⟨n1, n2, n3, n4, n5, n6, n7, n8, n9, n10, n11⟩
  have hsm := SM_move h.sm hmv hn hst hlv (PD_move h.sm.pd hmv rfl rfl) h.sm.cnt
  have hdf : DF b (mTgt c (g 3 s) m) (gu g 1 s m) S m d np pr pj (-1) := by
    refine ⟨fun z => ?_, fun z => ?_⟩
    · have i := h.df.1 z
      refine DI_move i hmv hag rfl rfl rfl rfl (fun _ _ => rfl) (fun l hl h0 => ?_) (fun x hx z4 => ⟨hx, by rw [gu_k (by decide)] at z4; exact z4⟩) (by rw [gu_k (by decide)]; exact i.jk)
      have q := (i.ml l hl h0).2
      exact ⟨gu_i (fun e => q (by rw [e]; exact hOs)), fun y => q (by
        rcases y with y | y
        · exact Or.inl y
        · exact absurd y.symm (nIm1 (by omega)))⟩
    · exact DN_move (h.df.2 z) hmv hag rfl rfl rfl rfl (fun x hx z4 => ⟨hx, by rw [gu_k (by decide)] at z4; exact z4⟩)
  have hrm : RM b.2.1 S m d np 0 := by
    have := h.rm
    unfold RM at this ⊢
    omega
  refine ⟨gu g 1 s m, ⟨hsm, MR_move h.mr hmv rfl rfl rfl, PN0_last hdf n2 hsl h.ls gu_s, hdf, hrm, h.o7⟩, ?_, by omega⟩
  exact BS_eq h.sm n2 (Nat.le_refl _) (fun _ _ _ => rfl) (fun _ _ _ => rfl) (fun _ _ => rfl) (fun _ _ => z0 _) (fun _ _ _ _ _ _ _ => z3 _)
