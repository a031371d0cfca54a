/-! ===== a program that both sides have read ===== -/
theorem LND_all {b c : S9} {g : GH} {S m np T wp pl pr pj : Nat} (h : R0 b c g S m 0 np pl pr pj wp) : ∀ (n s : Nat), s < n → s < S → LND (mCode c 13 0 (-1) m).2.1 g S (m + 1) (g 1 s) (g 2 s) (lkA b.2.1 S s) := by
  obtain ⟨n1, n2, n3, n4, n5, n6, n7, n8, n9, n10, n11⟩ := h.sm.num
  have hst := h.sm.st
  have C6 : ∀ x, x < m → (mCode c 13 0 (-1) m).2.1 6 x = c.2.1 6 x := fun x hx => pk_un (by omega)
  have C7 : ∀ x, x < m → (mCode c 13 0 (-1) m).2.1 7 x = c.2.1 7 x := fun x hx => pk_un (by omega)
  have C6m : (mCode c 13 0 (-1) m).2.1 6 m = 13 := pk_us
  have nO : ∀ s, s < S → ¬ OO b.2.1 0 (-1) s := fun s hs z => by
    rcases z with ⟨e, e1, e2, -⟩ | z
    · omega
    · exact absurd z.symm (nIm1 (by omega))
  intro n
  induction n with
  | zero => intro s h; omega
  | succ n ih =>
    intro s hsn hs
    have hat := lkA_at (B := b.2.1) hs
    rcases hst.1 s hs with q | q
    · rcases q with ⟨e, e1, e2⟩ | q
      · have e0 : e = 0 := by omega
        subst e0
        obtain ⟨q1, q2, q3⟩ := ow_get h.sm n2 hs e2
        rw [h.sm.lv.1] at q3
        rw [hat, if_neg (fun z => z.2 q3), q2]
        refine LND_JJ C6 C7 ((h.pn.1 rfl).2 s hs e2) ⟨0, m, ⟨rfl, by omega⟩, Or.inr (Or.inr ⟨rfl, ?_, C6m⟩)⟩
        rw [q1]; rfl
      · exact absurd q.symm (nIm1 (by omega))
    · rcases q with ⟨t, q1, q2, q3, q4, q5⟩ | ⟨q1, q⟩
      · rw [hat, if_neg (fun z => by rw [q1] at z; exact nIm1 (by omega) z.1), q1]
        have := (hst.2.2.1 t q3).1
        exact LND_JJ C6 C7 q5 (LND_step q3 (by omega) q4)
      · rcases q with ⟨r1, r2, r3, r4⟩ | ⟨p, r1, r2, r3, r⟩
        · rw [hat, if_neg (fun z => z.2 r1), q1]
          exact ⟨0, g 1 s, ⟨rfl, by omega⟩, Or.inr (Or.inl ⟨rfl, r2, by rw [C6 _ r3]; exact r4⟩)⟩
        · have hpS : p < S := by omega
          have hnp : ¬ b.2.1 5 s = -1 := by rw [r1]; exact nIm1 (by omega)
          rw [hat, if_pos ⟨q1, hnp⟩, r1, nI_clamp (by omega)]
          rcases r with ⟨u1, u2, u3, u4, u5⟩ | ⟨u1, u⟩
          · rw [if_pos u1]
            have := (hst.2.2.1 p hpS).1
            exact LND_jump (t := g 0 p) (by omega) (by rw [C6 _ u2]; exact u3) (by rw [C7 _ u2]; exact u5) (LND_step hpS (by omega) r3)
          · rw [if_neg (by rw [u1]; decide)]
            have ihp := ih p (by omega) hpS
            rw [show lkA b.2.1 s p = lkA b.2.1 S p from (lkA_lt _ r2).trans (lkA_lt _ hpS).symm]
            rw [r3] at ihp
            rcases u with ⟨y1, y2, y3⟩ | ⟨y1, y2, y3⟩
            · rcases hst.2.1 p hpS with z | z
              · exact absurd z (nO p hpS)
              · have hel := CLP_jp z y1
                rw [y3]
                refine LND_jump (t := g 1 p) (by have := hel.2.2.1; omega) (by rw [C6 _ hel.2.2.1]; exact hel.2.2.2.1) ?_ ihp
                rw [C7 _ hel.2.2.1]
                rcases z.2 with ⟨-, z6, -⟩ | ⟨-, z6, -⟩ | ⟨-, -, z7, -⟩ | ⟨-, -, z6, -⟩
                · omega
                · omega
                · exact z7
                · omega
            · rw [y3]; exact ihp
theorem kdm_cases {k c : Int32} (h : kdm k c) : (k = 61 ∨ k = 64 ∨ k = 33 ∨ k = 65 ∨ k = 63 ∨ k = 42) := by
  rcases h with ⟨e, -⟩ | ⟨e, -⟩ | ⟨e, -⟩ | ⟨e, -⟩ | ⟨e, -⟩ | ⟨e, -⟩
  · exact Or.inl e
  · exact Or.inr (Or.inl e)
  · exact Or.inr (Or.inr (Or.inl e))
  · exact Or.inr (Or.inr (Or.inr (Or.inl e)))
  · exact Or.inr (Or.inr (Or.inr (Or.inr (Or.inl e))))
  · exact Or.inr (Or.inr (Or.inr (Or.inr (Or.inr e))))
theorem PG_of {b c : S9} {g : GH} {S m np wp pl pr pj : Nat} (h : R0 b c g S m 0 np pl pr pj wp) (hpl : pl ≤ 3000) : PG (sA b 8 (lkA b.2.1 S)).2.1 (mCode c 13 0 (-1) m).2.1 g S (m + 1) pl := by
  obtain ⟨n1, n2, n3, n4, n5, n6, n7, n8, n9, n10, n11⟩ := h.sm.num
  have hm := RM_m h.rm n2 n9
  have hst := h.sm.st
  have hnD : ¬ inD b.2.1 0 := fun z => by have := z.1; omega
  have C6 : ∀ x, x < m → (mCode c 13 0 (-1) m).2.1 6 x = c.2.1 6 x := fun x hx => pk_un (by omega)
  have C7 : ∀ x, x < m → (mCode c 13 0 (-1) m).2.1 7 x = c.2.1 7 x := fun x hx => pk_un (by omega)
  have C8 : ∀ x, x < m → (mCode c 13 0 (-1) m).2.1 8 x = c.2.1 8 x := fun x hx => pk_un (by omega)
  have C9 : ∀ x, x < m → (mCode c 13 0 (-1) m).2.1 9 x = c.2.1 9 x := fun x hx => pk_un (by omega)
  have C10 : ∀ x, x < m → (mCode c 13 0 (-1) m).2.1 10 x = c.2.1 10 x := fun x hx => pk_un (by omega)
  have C11 : ∀ x, x < m → (mCode c 13 0 (-1) m).2.1 11 x = c.2.1 11 x := fun x hx => pk_un (by omega)
  have C6m : (mCode c 13 0 (-1) m).2.1 6 m = 13 := pk_us
  have B8 : (sA b 8 (lkA b.2.1 S)).2.1 8 = lkA b.2.1 S := rfl
  have hl : ∀ s, s < S → LND (mCode c 13 0 (-1) m).2.1 g S (m + 1) (g 1 s) (g 2 s) (lkA b.2.1 S s) := fun s hs => LND_all (T := 0) h (s + 1) s (by omega) hs
  have cl : ∀ s, s < S → CLP b.2.1 c.2.1 g S m s := fun s hs => by
    rcases hst.2.1 s hs with z | z
    · rcases z with ⟨e, e1, e2, -⟩ | z
      · omega
      · exact absurd z.symm (nIm1 (by omega))
    · exact z
  have g0 : ∀ s, s < S → g 0 s < m := fun s hs => (hst.2.2.1 s hs).1
  have stp : ∀ t, t < S → ∀ ow, g 2 t = ow → LND (mCode c 13 0 (-1) m).2.1 g S (m + 1) (g 0 t) ow (nI t) := fun t ht ow e => LND_step ht (by have := g0 t ht; omega) e
  have nm1 : ∀ t : Nat, t < S → ¬ nI t = -1 := fun t ht => nIm1 (by omega)
  refine ⟨n2, by omega, hpl, fun s hs => ?_, h.sm.po, fun s hs => ⟨?_, ?_⟩, h.mr.2.2, fun s hs => by have := g0 s hs; omega, fun s hs k1 k2 => ?_, fun s hs k => ?_, fun s hs k => ?_, fun s hs k => ?_, ?_, fun x hx => ?_⟩
  · have q := h.sm.ss s hs
    unfold SSs at q ⊢
    rw [C6 _ (g0 s hs), C7 _ (g0 s hs), C10 _ (g0 s hs)]
    exact q
  · have q := h.sm.cd s hs
    unfold CDs at q ⊢
    rw [C8 _ (g0 s hs), C9 _ (g0 s hs), C11 _ (g0 s hs)]
    exact q
  · have := h.sm.gm s hs
    rw [← h.mr.2.1] at this; exact this
  · rw [B8]
    rcases (cl s hs).2 with ⟨z, -⟩ | ⟨z, -⟩ | ⟨z, -⟩ | ⟨-, -, -, z⟩
    · exact absurd z k1
    · exact absurd z k2
    · exact absurd z k2
    · rw [← z]; exact hl s hs
  · obtain ⟨q, q1, q2, q3, q4, q5⟩ := (h.sm.ss s hs).2.2.2.2.2 k
    rcases h.sm.pd q q1 with ⟨z, -⟩ | ⟨d1, d2, d3, e, d4, d5, d6⟩
    · rw [q3] at z; exact absurd z (by decide)
    · refine ⟨q, e, g 8 q, q1, q2, by rw [C7 _ (g0 s hs), q4]; exact d4, by omega, q5, ?_⟩
      rcases d6 with ⟨r1, r2⟩ | ⟨t, r1, r2, r3, r4⟩
      · rw [show (sA b 8 (lkA b.2.1 S)).2.1 12 q = -1 from r1]
        exact ⟨0, e, ⟨rfl, by omega⟩, Or.inr (Or.inl ⟨rfl, by omega, by rw [C6 e d5]; exact r2⟩)⟩
      · rw [show (sA b 8 (lkA b.2.1 S)).2.1 12 q = nI t from r1, ← r3]
        exact stp t r2 _ r4
  · rw [B8]
    have k' : b.2.1 2 s = 42 := k
    rcases (cl s hs).2 with ⟨-, z6, z7, z⟩ | ⟨z, -⟩ | ⟨z, -⟩ | ⟨z, -⟩
    · refine ⟨?_, g 1 s, by rw [C7 _ (g0 s hs)]; exact z7, hl s hs⟩
      rw [show (sA b 8 (lkA b.2.1 S)).2.1 6 s = b.2.1 6 s from rfl]
      rcases z with ⟨y1, y2, y3, y4, y5⟩ | ⟨t, y1, y2, y3, y4, y5⟩
      · rw [if_pos y1]
        exact LND_jump (t := g 0 s) (by omega) (by rw [C6 _ y2]; exact y3) (by rw [C7 _ y2]; exact y5) (stp s hs _ rfl)
      · rw [y1, if_neg (nm1 t y3), ← y4]
        exact stp t y3 _ y5
    · rw [k'] at z; exact absurd z (by decide)
    · rw [k'] at z; exact absurd z (by decide)
    · exact absurd k' z
  · rw [B8, show (sA b 8 (lkA b.2.1 S)).2.1 6 s = b.2.1 6 s from rfl, show (sA b 8 (lkA b.2.1 S)).2.1 7 s = b.2.1 7 s from rfl]
    have k' : b.2.1 2 s = 63 := k
    rcases (cl s hs).2 with ⟨z, -⟩ | ⟨-, z6, z7, z8, z⟩ | ⟨-, ze, z8, z⟩ | ⟨-, z, -⟩
    · rw [k'] at z; exact absurd z (by decide)
    · refine ⟨?_, g 1 s, by rw [C7 _ (g0 s hs)]; exact z8, by rw [if_pos z7]; exact hl s hs⟩
      rcases z with ⟨y1, y2⟩ | ⟨t, y1, y2, y3, y4, y5⟩
      · rw [if_pos y1, ← y2]; exact hl s hs
      · rw [y1, if_neg (nm1 t y3), ← y4]
        exact stp t y3 _ y5
    · obtain ⟨e1, e2, e3, e4, e5, e6, e7, e8⟩ := ze
      refine ⟨?_, g 3 s + 1, by rw [C7 _ (g0 s hs)]; exact e7, ?_⟩
      · rcases e8 with ⟨y1, y2⟩ | ⟨t, y1, y2, y3, y4, y5⟩
        · rw [if_pos y1, ← y2]
          exact LND_jump (t := g 1 s) (by omega) (by rw [C6 _ e3]; exact e4) (by rw [C7 _ e3]; exact z8) (hl s hs)
        · rw [y1, if_neg (nm1 t y3), ← y4]
          exact stp t y3 _ y5
      · rcases z with ⟨y1, y2⟩ | ⟨t, y1, y2, y3, y4, y5⟩
        · rw [if_pos y1, ← y2]; exact hl s hs
        · rw [y1, if_neg (nm1 t y3), ← y4]
          exact stp t y3 _ y5
    · exact absurd k' z
  · rcases (h.pn.1 rfl).1 with ⟨q1, q2, q3⟩ | ⟨t, q1, q2, q3, q4, -⟩
    · rw [show (sA b 8 (lkA b.2.1 S)).2.1 12 26 = -1 from q2]
      exact LND_JJ C6 C7 q3 ⟨0, m, ⟨rfl, by omega⟩, Or.inr (Or.inr ⟨rfl, rfl, C6m⟩)⟩
    · rw [show (sA b 8 (lkA b.2.1 S)).2.1 12 26 = nI t from q1]
      exact LND_JJ C6 C7 q4 (stp t q2 _ q3)
  · by_cases e : x < m
    · rcases h.sm.cp x e with q | q
      · exact Or.inl q
      · exact Or.inr (by rw [C10 x e]; exact q)
    · have e2 : x = m := by omega
      subst e2
      exact Or.inr pk_us
