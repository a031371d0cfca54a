/-! ===== one more step: all of it ===== -/
theorem cntD_le (B : AR) (n : Nat) : cntD B n ≤ n := by
  induction n with
  | zero => exact Nat.le_refl _
  | succ n ih => unfold cntD; split <;> omega
theorem cntD_lt {B : AR} : ∀ {n q : Nat}, q < n → B 13 q = 0 → cntD B n < n := by
  intro n
  induction n with
  | zero => intro q h; omega
  | succ n ih =>
    intro q h h0
    unfold cntD
    have := cntD_le B n
    by_cases e : q = n
    · subst e; rw [if_pos h0]; omega
    · have := ih (q := q) (by omega) h0
      split <;> omega
theorem cntD_congr {B B' : AR} {n : Nat} (h : B' 13 = B 13) : cntD B' n = cntD B n := by
  induction n with
  | zero => rfl
  | succ n ih => unfold cntD; rw [ih, h]
theorem cntL_congr {B B' : AR} : ∀ {d : Nat}, (∀ e, 1 ≤ e → e ≤ d → B' 14 e = B 14 e ∧ B' 15 e = B 15 e) → cntL B' d = cntL B d := by
  intro d
  induction d with
  | zero => intro _; rfl
  | succ d ih => intro h; unfold cntL; rw [ih (fun e h1 h2 => h e h1 (by omega)), (h (d + 1) (by omega) (Nat.le_refl _)).1, (h (d + 1) (by omega) (Nat.le_refl _)).2]
theorem LVL_d {B C : AR} {g : GH} {S m d ow : Nat} (h : LVL B C g S m d ow) (hd : 1 ≤ d) (h1 : B 14 d = -1) (hS : S ≤ 300) : d = 1 := by
  rcases h.2.1 d hd (Nat.le_refl _) with ⟨q, -⟩ | ⟨o, q, q2, -⟩
  · exact q
  · rw [h1] at q; exact absurd q.symm (nIm1 (by omega))
theorem LS_ne {B C : AR} {g : GH} {S m d np : Nat} (h : LVL B C g S m d (owR B d np)) (hS : S ≤ 300) (hnp : inD B d → np < 26) {e l : Nat} (he : e < d) (hl : l < S) (h1 : B 16 e = nI l) : ¬ B 16 d = nI l := by
  intro h2
  rcases h.2.2 d (Nat.le_refl _) with q | ⟨l', l1, l2, l3, l4, l5, l6⟩
  · rw [h2] at q; exact absurd q (nIm1 (by omega))
  have e1 : l' = l := nIj (by omega) (by omega) (l1.symm.trans h2)
  subst e1
  rcases h.2.2 e (by omega) with q | ⟨l'', k1, k2, k3, k4, k5, k6⟩
  · rw [h1] at q; exact absurd q (nIm1 (by omega))
  have e2 : l'' = l' := nIj (by omega) (by omega) (k1.symm.trans h1)
  subst e2
  rw [if_neg (by omega)] at l5
  rcases h.2.1 (e + 1) (by omega) (by omega) with ⟨q1, q2⟩ | ⟨o, q1, q2, q3, -⟩
  · have e3 : e = 0 := by omega
    subst e3
    have hin : inD B d := ⟨by omega, q2⟩
    have := hnp hin
    rw [if_pos rfl, l5] at k5
    unfold owR at k5
    rw [if_pos hin] at k5
    omega
  · have q3' : B 16 e = nI o := q3
    have e4 : o = l'' := nIj (by omega) (by omega) (q3'.symm.trans h1)
    subst e4
    rcases h.2.1 d (by omega) (Nat.le_refl _) with ⟨r1, r2⟩ | ⟨o', r1, r2, -⟩
    · have e5 : e + 1 = 1 := by omega
      rw [e5] at q1
      rw [q1] at r2; exact absurd r2 (nIm1 (by omega))
    · have hlt := (l6 (by omega) o' r2 r1).1
      by_cases e6 : e + 1 = d
      · rw [e6] at q1
        have := nIj (by omega) (by omega) (q1.symm.trans r1)
        omega
      · have := op_lt h hS d (e + 1) o o' (by omega) (by omega) (Nat.le_refl _) q1 q2 r1 r2
        omega
theorem add_LVL {b c : S9} {g : GH} {S m d np pl T pr pj wp prc pc : Nat}  {kd pcI tg ck ct : Int32} {B' C' : AR} (h : SM b c g S m d np T (-1) (-1) wp) (hdf : DF b c g S m d np pr pj (-1)) (hp : PN0 b.2.1 c.2.1 g S m d pr) (hS : S < 300) (hb : ADDB b.2.1 B' S d prc pl kd pcI tg) (hc : ADDC c.2.1 C' m pl ck ct pcI)
    (hag : AG b.2.1 B' c.2.1 C' g (gNew g S m (ow1 b.2.1 d np) (el1 b.2.1 d) pc pl) S m (OO b.2.1 d (-1)) (UU b.2.1 d (-1))) :
    LVL B' C' (gNew g S m (ow1 b.2.1 d np) (el1 b.2.1 d) pc pl) (S + 1) (m + 1) d (owR B' d np) := by
  obtain ⟨s1, s2, s3, s4⟩ := h.st
  have hL := h.lv
  have hnp : inD b.2.1 d → np < 26 := fun z => by
    rw [h.cnt]; exact cntD_lt (hdf.1 z).pl (hdf.1 z).nd
  obtain ⟨⟨b2, b3, b4, b5, b9⟩, ⟨-, -, b13, b14, b15, b16⟩, ⟨k8, k8S, k8l⟩, ⟨k6, k6S, k6o⟩, ⟨k7, k7S, k7o⟩, -⟩ := hb
  rw [owR_congr b14]
  have go : ∀ k s, k ≠ 4 → s < S → gNew g S m (ow1 b.2.1 d np) (el1 b.2.1 d) pc pl k s = g k s := fun k s hk hs => gNew_old ⟨fun _ => by omega, fun z => absurd z hk⟩
  refine ⟨by rw [b14]; exact hL.1, fun e h1 h2 => ?_, fun e he => ?_⟩
  · rcases hL.2.1 e h1 h2 with ⟨q1, q2⟩ | ⟨o, q1, q2, q3, q4, q5⟩
    · exact Or.inl ⟨q1, by rw [b14]; exact q2⟩
    · have c7 : C' 7 (g 0 o) = c.2.1 7 (g 0 o) := by
        have := (s3 o q2).1
        rw [hc.2.1, pk_un (by omega)]
      refine Or.inr ⟨o, by rw [b14]; exact q1, by omega, by rw [b16, pk_un (by omega)]; exact q3, by rw [go 2 o (by decide) q2]; exact q4, ?_⟩
      by_cases ed : e = d
      · subst ed
        have b16d : B' 16 e = nI S := by rw [b16, pk_us]
        have hown : gNew g S m (ow1 b.2.1 e np) (el1 b.2.1 e) pc pl 2 S = g 2 o := by
          rw [gNew_2, q4]; unfold ow1; rw [if_neg (by omega)]
        rcases q5 with ⟨r1, r2, r3, r4, r5, r6⟩ | ⟨r1, r2, r3, r4, r5⟩
        · refine Or.inl ⟨by rw [b15]; exact r1, by rw [b2, pk_un (by omega)]; exact r2, by rw [go 6 o (by decide) q2]; exact r3, ?_, fun z => absurd (b16d.symm.trans z) (nIm1 (by omega)), fun _ => ?_⟩
          · rw [k7 o q2 (fun z => by rw [r1] at z; exact absurd z.2.2 (by decide))]; exact r4
          · by_cases hl : b.2.1 16 e = -1
            · refine ⟨S, k6o o q2 q1 hl r1, q2, by omega, ?_, hown.trans (go 2 o (by decide) q2).symm⟩
              rw [gNew_0, go 0 o (by decide) q2]
              exact (((hp.2 h1).2 hl).2 o q2 q1).1 r1 |>.symm
            · exact AG_FI hag (by omega) q2 (k6 o q2 (fun z => hl z.2.1)) (r6 hl)
        · refine Or.inr ⟨by rw [b15]; exact r1, by rw [b2, pk_un (by omega)]; exact r2, AG_EL hag (by omega) (by omega) q2 (k6 o q2 (fun z => by rw [r1] at z; exact absurd z.2.2 (by decide))) c7 r3, fun z => absurd (b16d.symm.trans z) (nIm1 (by omega)), fun _ => ?_⟩
          by_cases hl : b.2.1 16 e = -1
          · refine ⟨S, k7o o q2 q1 hl r1, q2, by omega, ?_, hown.trans (go 2 o (by decide) q2).symm⟩
            rw [gNew_0, go 3 o (by decide) q2]
            exact (((hp.2 h1).2 hl).2 o q2 q1).2 r1 |>.symm
          · exact AG_SE hag (by omega) q2 (k7 o q2 (fun z => hl z.2.1)) (go 3 o (by decide) q2) (r5 hl)
      · have hne : ¬ b.2.1 14 d = nI o := fun z => by
          have := op_lt hL (by omega) d e o o h1 (by omega) (Nat.le_refl _) q1 q2 z q2
          omega
        have b6 := k6 o q2 (fun z => hne z.1)
        have b7 := k7 o q2 (fun z => hne z.1)
        have b16e : B' 16 e = b.2.1 16 e := by rw [b16, pk_un ed]
        rcases q5 with ⟨r1, r2, r3, r4, r5, r6⟩ | ⟨r1, r2, r3, r4, r5⟩
        · exact Or.inl ⟨by rw [b15]; exact r1, by rw [b2, pk_un (by omega)]; exact r2, by rw [go 6 o (by decide) q2]; exact r3, by rw [b7]; exact r4, fun z => by rw [b6]; exact r5 (b16e.symm.trans z), fun z => AG_FI hag (by omega) q2 b6 (r6 (fun y => z (b16e.trans y)))⟩
        · exact Or.inr ⟨by rw [b15]; exact r1, by rw [b2, pk_un (by omega)]; exact r2, AG_EL hag (by omega) (by omega) q2 b6 c7 r3, fun z => by rw [b7]; exact r4 (b16e.symm.trans z), fun z => AG_SE hag (by omega) q2 b7 (go 3 o (by decide) q2) (r5 (fun y => z (b16e.trans y)))⟩
  · by_cases ed : e = d
    · subst ed
      refine Or.inr ⟨S, by rw [b16, pk_us], by omega, k8S, by rw [b5, pk_us, b14], by rw [gNew_2]; unfold ow1; rfl, fun h1 o ho2 ho => ?_⟩
      rw [b14] at ho
      have ho3 : o < S := by
        rcases hL.2.1 e h1 (Nat.le_refl _) with ⟨q1, q2⟩ | ⟨o', q1, q2, -⟩
        · subst q1; rw [ho] at q2; exact absurd q2 (nIm1 (by omega))
        · have := nIj (by omega) (by omega) (q1.symm.trans ho)
          omega
      refine ⟨ho3, ?_⟩
      rw [gNew_7, b15]
      unfold el1
      rw [if_neg (by omega)]
    · rcases hL.2.2 e he with q | ⟨l, l1, l2, l3, l4, l5, l6⟩
      · exact Or.inl (by rw [b16, pk_un ed]; exact q)
      · refine Or.inr ⟨l, by rw [b16, pk_un ed]; exact l1, by omega, ?_, ?_, by rw [go 2 l (by decide) l2]; exact l5, fun h1 o ho2 ho => ?_⟩
        · rw [k8 l l2 (LS_ne hL (by omega) hnp (by omega) l2 l1)]; exact l3
        · rw [b5, pk_un (by omega), b14]; exact l4
        · rw [b14] at ho
          rw [b15, go 7 l (by decide) l2]
          have ho3 : o < S := by
            rcases hL.2.1 e h1 he with ⟨q1, q2⟩ | ⟨o', q1, q2, -⟩
            · subst q1; rw [ho] at q2; exact absurd q2 (nIm1 (by omega))
            · have := nIj (by omega) (by omega) (q1.symm.trans ho)
              omega
          exact l6 h1 o ho3 ho
