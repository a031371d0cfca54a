/-! ===== one more step: the rest ===== -/
theorem gNew_8 {g : GH} {S m ow el pc pl i : Nat} : gNew g S m ow el pc pl 8 i = g 8 i := by unfold gNew gu; simp
theorem gNew_3 {g : GH} {S m ow el pc pl i : Nat} : gNew g S m ow el pc pl 3 i = g 3 i := by unfold gNew gu; simp
theorem gNew_5 {g : GH} {S m ow el pc pl i : Nat} : gNew g S m ow el pc pl 5 i = g 5 i := by unfold gNew gu; simp
theorem csg_new {g : GH} {S m ow el pc pl s : Nat} (h : s ≤ S) : csg (gNew g S m ow el pc pl) s = csg g s := by
  unfold csg
  by_cases e : s = 0
  · rw [if_pos e, if_pos e]
  · rw [if_neg e, if_neg e, gNew_old ⟨fun _ => by omega, fun z => absurd z (by decide)⟩]
theorem SM_np {b c : S9} {g : GH} {S m d np T pr pj wp : Nat} {xo xu : Int32} (h : SM b c g S m d np T xo xu wp) (hdf : DF b c g S m d np pr pj xo) (z : inD b.2.1 d) : np < 26 := by
  have q := h.cnt
  have := cntD_lt (hdf.1 z).pl (hdf.1 z).nd
  omega
theorem add_SM {b c b' c' : S9} {g : GH} {S m d np pl pr pj wp prc pc : Nat} {kd tg ck ct : Int32} (h : SM b c g S m d np S (-1) (-1) wp) (hdf : DF b c g S m d np pr pj (-1)) (hp : PN0 b.2.1 c.2.1 g S m d pr) (hS : S < 300) (hm : m < 1200)
    (hb : ADDB b.2.1 b'.2.1 S d prc pl kd (nI pc) tg) (hc : ADDC c.2.1 c'.2.1 m pl ck ct (nI pc)) (hn : NUM b' c' (S + 1) (m + 1) d np) (h8 : b'.1 8 = b.1 8) (hprc : b.1 8 = nI prc) (hprc2 : prc ≤ 26) (hpc : wp ≤ pc) (hpc2 : pc < 3000)
    {xo : Int32} (hxo : (kd = 42 ∨ kd = 63) → xo = nI S) (hxo2 : ∀ s, s < S → ¬ xo = nI s) (hkd : kdm kd ck) (h61 : kd = 61 → ∃ p : Nat, p < 26 ∧ tg = nI p ∧ ct = nI p) (h65 : kd = 65 → ∃ q : Nat, q < 26 ∧ tg = nI q ∧ b.2.1 13 q = 1 ∧ ct = c.2.1 14 q ∧ g 8 q < ow1 b.2.1 d np) :
    SM b' c' (gNew g S m (ow1 b.2.1 d np) (el1 b.2.1 d) pc pl) (S + 1) (m + 1) d np S xo (-1) (pc + 1) ∧ DF b' c' (gNew g S m (ow1 b.2.1 d np) (el1 b.2.1 d) pc pl) (S + 1) (m + 1) d np pr pj xo := by
  have hk3 : kd = 42 ∨ kd = 63 ∨ (¬ kd = 42 ∧ ¬ kd = 63) := by
    by_cases e : kd = 42
    · exact Or.inl e
    · by_cases e2 : kd = 63
      · exact Or.inr (Or.inl e2)
      · exact Or.inr (Or.inr ⟨e, e2⟩)
  obtain ⟨hag, hst⟩ := add_ST (pc := pc) h hp hS hb hc hk3 hxo hxo2
  have hlv := add_LVL h hdf hp hS hb hc hag
  have hb0 := hb
  obtain ⟨⟨b2, b3, b4, b5, b9⟩, ⟨b10, b11, b13, b14, b15, b16⟩, ⟨k8, k8S, k8l⟩, -, -, ⟨k12, k12n⟩⟩ := hb
  obtain ⟨c6, c7, c8, c9, c10, c11, c12, c13, c14, c15⟩ := hc
  have hin : inD b'.2.1 d ↔ inD b.2.1 d := inD_congr b14
  have go : ∀ k s, k ≠ 4 → s < S → gNew g S m (ow1 b.2.1 d np) (el1 b.2.1 d) pc pl k s = g k s := fun k s hk hs => gNew_old ⟨fun _ => by omega, fun z => absurd z hk⟩
  have g4o : ∀ x, x < m → gNew g S m (ow1 b.2.1 d np) (el1 b.2.1 d) pc pl 4 x = g 4 x := fun x hx => gNew_old ⟨fun z => absurd rfl z, fun _ => by omega⟩
  have hprI : inD b.2.1 d → prc = pr := fun z => nIj (by omega) (by have := (hdf.1 z).pl; omega) (hprc.symm.trans (hdf.1 z).p8)
  have hprN : ¬ inD b.2.1 d → prc = 26 := fun z => nIj (by omega) (by omega) (hprc.symm.trans (hdf.2 z).p8)
  refine ⟨⟨hn, hst, hlv, ?_, ?_, fun s hs => ?_, fun s t hst' ht => ?_, fun s hs => ?_, fun x hx => ?_, by omega, fun s hs => ?_, fun s hs => by rw [go 10 s (by decide) hs, csg_new (Nat.le_refl _)]; exact h.gm s hs⟩, fun z => ?_, fun z => ?_⟩
  · refine PD_stable hag (by omega) (by omega) (Nat.le_refl _) b13 c14 c15 (fun q hq h1 => ?_) (fun q => gNew_8) h.pd
    refine k12 q (fun z => ?_)
    by_cases hi : inD b.2.1 d
    · have := (hdf.1 hi).nd
      rw [← hprI hi, ← z.1, h1] at this
      exact absurd this (by decide)
    · have := hprN hi
      omega
  · rw [cntD_congr b13]; exact h.cnt
  · by_cases e : s = S
    · subst e
      unfold SSs
      rw [gNew_0, gNew_9, gNew_2, b2, b3, b4, c6, c7, c10, pk_us, pk_us, pk_us, pk_us, pk_us, pk_us, b13, c14]
      refine ⟨hkd, rfl, rfl, hpc2, h61, fun z => ?_⟩
      obtain ⟨q, q1, q2, q3, q4, q5⟩ := h65 z
      exact ⟨q, q1, q2, q3, q4, by rw [gNew_8]; exact q5⟩
    · have hs' : s < S := by omega
      have q := h.ss s hs'
      have hm := (h.st.2.2.1 s hs').1
      unfold SSs at q ⊢
      rw [go 0 s (by decide) hs', go 9 s (by decide) hs', go 2 s (by decide) hs', b2, b3, b4, c6, c7, c10, pk_un e, pk_un e, pk_un e, pk_un (by omega), pk_un (by omega), pk_un (by omega), b13, c14]
      refine ⟨q.1, q.2.1, q.2.2.1, q.2.2.2.1, q.2.2.2.2.1, fun z => ?_⟩
      obtain ⟨q0, q1, q2, q3, q4, q5⟩ := q.2.2.2.2.2 z
      exact ⟨q0, q1, q2, q3, q4, by rw [gNew_8]; exact q5⟩
  · by_cases e : t = S
    · subst e
      rw [gNew_9, go 9 s (by decide) hst']
      have := h.pw s hst'
      omega
    · rw [go 9 s (by decide) (by omega), go 9 t (by decide) (by omega)]
      exact h.po s t hst' (by omega)
  · by_cases e : s = S
    · subst e; rw [gNew_9]; omega
    · rw [go 9 s (by decide) (by omega)]
      have := h.pw s (by omega)
      omega
  · by_cases e : x = m
    · subst e; exact Or.inl ⟨S, by omega, gNew_0.symm⟩
    · rcases h.cp x (by omega) with ⟨s, q1, q2⟩ | q
      · exact Or.inl ⟨s, by omega, by rw [go 0 s (by decide) q1]; exact q2⟩
      · exact Or.inr (by rw [c10, pk_un e]; exact q)
  · have q := h.cd s hs
    have hm := (h.st.2.2.1 s hs).1
    unfold CDs at q ⊢
    rw [go 10 s (by decide) hs, go 0 s (by decide) hs, csg_new (by omega), b9, c8, c9, c11, c12, c13, b2, pk_un (by omega), pk_un (by omega), pk_un (by omega), pk_un (by omega), pk_un (by omega)]
    exact q
  · have hi := hin.mp z
    obtain ⟨i1, i2, i3, i4, i5, i6, i7, i8, i9, i10, i11, i12⟩ := hdf.1 hi
    have hpr := hprI hi
    have b160 : b'.2.1 16 0 = b.2.1 16 0 := by rw [b16, pk_un (by have := hi.1; omega)]
    refine ⟨by rw [h8]; exact i1, i2, by rw [b13]; exact i3, by rw [c14]; exact i4, by omega, by rw [c6, pk_un (by omega)]; exact i6, by rw [g4o pj i5]; exact i7, ?_, fun l hl h0 => ?_, ?_, fun x hx h4 => ?_, fun q hq h1 hne => ?_⟩
    · exact MN_stable hag (by omega) (by omega) b160 (k12 26 (fun y => by omega)) i8
    · rw [b160] at h0
      have hl' : l < S := by
        rcases h.lv.2.2 0 (by omega) with q | ⟨l', q1, q2, -⟩
        · rw [h0] at q; exact absurd q (nIm1 (by omega))
        · have := nIj (by omega) (by omega) (q1.symm.trans h0); omega
      obtain ⟨q1, q2⟩ := i9 l hl' h0
      rw [go 1 l (by decide) hl']
      refine ⟨AG_JJ hag (by omega) q1, fun y => q2 ?_⟩
      rcases y with ⟨e, y1, y2, y3⟩ | y
      · rw [b14] at y3; exact Or.inl ⟨e, y1, y2, y3⟩
      · exact absurd y (hxo2 l hl')
    · by_cases ed : d = 1
      · subst ed
        by_cases hl : b.2.1 16 1 = -1
        · refine Or.inr ⟨S, by rw [← hpr]; exact k12n hl hi.2, by omega, ?_, ?_, by rw [b16, pk_us]; exact nIm1 (by omega)⟩
          · rw [gNew_0]
            have := ((hp.2 (Nat.le_refl _)).2 hl).1 hi.2
            have e1 := nIj (by omega) (by omega) (this.symm.trans i4) (a := m) (b := pj + 1)
            exact e1
          · rw [gNew_2]; unfold ow1 owR; rw [if_neg (by omega), if_pos hi]
        · rcases i10 with ⟨q, -⟩ | ⟨t, q1, q2, q3, q4, q5⟩
          · exact absurd q hl
          · exact Or.inr ⟨t, by rw [k12 pr (fun y => hl y.2.1)]; exact q1, by omega, by rw [go 0 t (by decide) q2]; exact q3, by rw [go 2 t (by decide) q2]; exact q4, by rw [b16, pk_us]; exact nIm1 (by omega)⟩
      · have e12 : b'.2.1 12 pr = b.2.1 12 pr := k12 pr (fun y => ed (LVL_d h.lv (by have := hi.1; omega) y.2.2 (by omega)))
        have e16 : b'.2.1 16 1 = b.2.1 16 1 := by rw [b16, pk_un (by omega)]
        rcases i10 with ⟨q, q'⟩ | ⟨t, q1, q2, q3, q4, q5⟩
        · exact Or.inl ⟨by rw [e16]; exact q, by rw [e12]; exact q'⟩
        · exact Or.inr ⟨t, by rw [e12]; exact q1, by omega, by rw [go 0 t (by decide) q2]; exact q3, by rw [go 2 t (by decide) q2]; exact q4, by rw [e16]; exact q5⟩
    · by_cases e : x = m
      · subst e; rw [gNew_4] at h4; omega
      · rw [g4o x (by omega)] at h4
        exact i11 x (by omega) h4
    · rw [b13] at h1
      rw [k12 q (fun y => hne (y.1.trans hpr))]
      exact i12 q hq h1 hne
  · have hi : ¬ inD b.2.1 d := fun y => z (hin.mpr y)
    obtain ⟨n1, n2, n3, n4⟩ := hdf.2 hi
    have hpr := hprN hi
    refine ⟨by rw [h8]; exact n1, fun x hx => ?_, ?_, fun q hq h1 => ?_⟩
    · by_cases e : x = m
      · subst e; rw [gNew_4]; omega
      · rw [g4o x (by omega)]; exact n2 x (by omega)
    · by_cases ed : d = 0
      · subst ed
        have hS16 : b'.2.1 16 0 = nI S := by rw [b16, pk_us]
        obtain ⟨p1, p2⟩ := hp.1 rfl
        rcases p1 with ⟨q1, q2, q3⟩ | ⟨t, q1, q2, q3, q4, l, q5, q6⟩
        · refine ⟨0, Or.inr ⟨S, by rw [← hpr]; exact k12n q1 h.lv.1, by omega, by rw [gNew_2]; rfl, ?_, S, hS16, by omega⟩⟩
          rw [gNew_0]; exact AG_JJ hag (by omega) q3
        · refine ⟨0, Or.inr ⟨t, ?_, by omega, by rw [go 2 t (by decide) q2]; exact q3, by rw [go 0 t (by decide) q2]; exact AG_JJ hag (by omega) q4, S, hS16, by omega⟩⟩
          rw [k12 26 (fun y => by rw [q5] at y; exact absurd y.2.1 (nIm1 (by omega)))]; exact q1
      · obtain ⟨y, hy⟩ := n3
        refine ⟨y, MN_stable hag (by omega) (by omega) (by rw [b16, pk_un (by omega)]) (k12 26 (fun y => ?_)) hy⟩
        have e1 := LVL_d h.lv (by omega) y.2.2 (by omega)
        subst e1
        exact hi ⟨Nat.le_refl _, y.2.2⟩
    · rw [b13] at h1
      rw [k12 q (fun y => by omega)]
      exact n4 q hq h1
/-- behind a step that is closed -/
theorem PN0_last {b c : S9} {g : GH} {S m d np pr pj l : Nat} {xo : Int32} (hdf : DF b c g S m d np pr pj xo) (hS : S ≤ 300) (hl : l < S) (h1 : b.2.1 16 d = nI l) (h2 : g 1 l = m) : PN0 b.2.1 c.2.1 g S m d pr := by
  refine ⟨fun e => ?_, fun e => ⟨fun l' hl' h' => ?_, fun z => ?_⟩⟩
  · subst e
    obtain ⟨y, hy⟩ := (hdf.2 (fun z => by have := z.1; omega)).mn
    rcases hy with ⟨q1, -⟩ | q
    · rw [h1] at q1; exact absurd q1 (nIm1 (by omega))
    · refine ⟨Or.inr q, fun l' hl' h' => ?_⟩
      have e2 := nIj (by omega) (by omega) (h1.symm.trans h')
      subst e2; rw [h2]; exact JJ_rf (Nat.le_refl _)
  · have e2 := nIj (by omega) (by omega) (h1.symm.trans h')
    subst e2; exact h2
  · rw [h1] at z; exact absurd z (nIm1 (by omega))
