/-! ===== one more step: structure, levels, procedures ===== -/
theorem inD_congr {B B' : AR} {d : Nat} (h : B' 14 = B 14) : inD B' d ↔ inD B d := by unfold inD; rw [h]
theorem owR_congr {B B' : AR} {d np : Nat} (h : B' 14 = B 14) : owR B' d np = owR B d np := by
  unfold owR
  by_cases e : inD B d
  · rw [if_pos e, if_pos ((inD_congr h).mpr e)]
  · rw [if_neg e, if_neg (fun z => e ((inD_congr h).mp z))]
theorem MN_stable {B B' C C' : AR} {g g' : GH} {S S' m m' y : Nat} {O U : Nat → Prop} (h : AG B B' C C' g g' S m O U) (hS : S ≤ S') (hm : m ≤ m') (h16 : B' 16 0 = B 16 0) (h12 : B' 12 26 = B 12 26) (q : MN B C g S m y) : MN B' C' g' S' m' y := by
  rcases q with ⟨q1, q2, q3⟩ | ⟨t, q1, q2, q3, q4, l, q5, q6⟩
  · exact Or.inl ⟨by rw [h16]; exact q1, by rw [h12]; exact q2, AG_JJ h hm q3⟩
  · exact Or.inr ⟨t, by rw [h12]; exact q1, by omega, by rw [(h.2.1 t q2).2.1]; exact q3, by rw [(h.2.1 t q2).1]; exact AG_JJ h hm q4, l, by rw [h16]; exact q5, by omega⟩
theorem PD_stable {B B' C C' : AR} {g g' : GH} {S S' m m' np np' : Nat} {O U : Nat → Prop} (h : AG B B' C C' g g' S m O U) (hS : S ≤ S') (hm : m ≤ m') (hn : np ≤ np') (h13 : B' 13 = B 13) (c14 : C' 14 = C 14) (c15 : C' 15 = C 15) (h12 : ∀ q, q < 26 → B 13 q = 1 → B' 12 q = B 12 q) (g8 : ∀ q, g' 8 q = g 8 q) (q : PD B C g S m np) : PD B' C' g' S' m' np' := by
  intro x hx
  rcases q x hx with ⟨q1, q2⟩ | ⟨q1, q2, q3, e, q4, q5, q6⟩
  · exact Or.inl ⟨by rw [h13]; exact q1, by rw [c15]; exact q2⟩
  · refine Or.inr ⟨by rw [h13]; exact q1, by rw [c15]; exact q2, by rw [g8]; omega, e, by rw [c14]; exact q4, by omega, ?_⟩
    rcases q6 with ⟨r1, r2⟩ | ⟨t, r1, r2, r3, r4⟩
    · exact Or.inl ⟨by rw [h12 x hx q1]; exact r1, by rw [(h.2.2.1 e q5).1]; exact r2⟩
    · exact Or.inr ⟨t, by rw [h12 x hx q1]; exact r1, by omega, by rw [(h.2.1 t r2).1]; exact r3, by rw [(h.2.1 t r2).2.1, g8]; exact r4⟩
/-- the level of the new step -/
noncomputable def ow1 (B : AR) (d np : Nat) : Nat := if d = 0 then 26 else owR B d np
def el1 (B : AR) (d : Nat) : Nat := if d = 0 then 0 else if B 15 d = 0 then 0 else 1
theorem add_ST {b c : S9} {g : GH} {S m d np pl T pr wp prc pc : Nat} {kd pcI tg ck ct : Int32} {B' C' : AR} (h : SM b c g S m d np T (-1) (-1) wp) (hp : PN0 b.2.1 c.2.1 g S m d pr) (hS : S < 300) (hb : ADDB b.2.1 B' S d prc pl kd pcI tg) (hc : ADDC c.2.1 C' m pl ck ct pcI) (hk : kd = 42 ∨ kd = 63 ∨ (¬ kd = 42 ∧ ¬ kd = 63)) {xo : Int32} (hxo : (kd = 42 ∨ kd = 63) → xo = nI S) (hxo2 : ∀ s, s < S → ¬ xo = nI s) :
    AG b.2.1 B' c.2.1 C' g (gNew g S m (ow1 b.2.1 d np) (el1 b.2.1 d) pc pl) S m (OO b.2.1 d (-1)) (UU b.2.1 d (-1)) ∧
    ST B' C' (gNew g S m (ow1 b.2.1 d np) (el1 b.2.1 d) pc pl) (S + 1) (m + 1) (OO B' d xo) (UU B' d (-1)) := by
  obtain ⟨s1, s2, s3, s4⟩ := h.st
  have hL := h.lv
  have hag := AG_add (ow := ow1 b.2.1 d np) (el := el1 b.2.1 d) (pc := pc) (U := UU b.2.1 d (-1)) hS hb hc (fun s hs z => Or.inl ⟨d, Nat.le_refl _, z⟩) (fun s hs => (s3 s hs).1) (fun s hs ho h6 => by
    rcases s2 s hs with q | q
    · exact absurd q ho
    · exact (CLP_jp q h6).2.2.1) hL.1
  refine ⟨hag, ?_⟩
  obtain ⟨⟨b2, b3, b4, b5, b9⟩, ⟨-, -, b13, b14, b15, b16⟩, ⟨k8, k8S, k8l⟩, -, -, -⟩ := hb
  have oU : ∀ s, s < S → ¬ UU b.2.1 d (-1) s → ¬ OO b.2.1 d (-1) s := fun s hs hu ho => hu (OO_UU hL (by omega) hs (fun z => absurd z.symm (nIm1 (by omega))) ho)
  have oo : ∀ s, s < S → OO B' d xo s → OO b.2.1 d (-1) s := fun s hs q => by
    rcases q with ⟨e, h1, h2, h3⟩ | q
    · rw [b14] at h3; exact Or.inl ⟨e, h1, h2, h3⟩
    · exact absurd q (hxo2 s hs)
  refine ⟨fun s hs => ?_, fun s hs => ?_, fun s hs => ?_, fun s t hst ht => ?_⟩
  · by_cases e : s = S
    · subst e; exact Or.inl (Or.inl ⟨d, Nat.le_refl _, by rw [b16, pk_us]⟩)
    have hs' : s < S := by omega
    by_cases hl : b.2.1 16 d = nI s
    · -- the step ahead of the new one
      by_cases hu : UU B' d (-1) s
      · exact Or.inl hu
      refine Or.inr (Or.inl ⟨S, k8l s hs' hl, hs', by omega, ?_, ?_⟩)
      · rw [gNew_2, gNew_old ⟨fun _ => by omega, fun z => absurd z (by decide)⟩]
        rcases hL.2.2 d (Nat.le_refl _) with q | ⟨l, l1, l2, l3, l4, l5, l6⟩
        · rw [hl] at q; exact absurd q (nIm1 (by omega))
        · have e2 : l = s := nIj (by omega) (by omega) (l1.symm.trans hl)
          subst e2; rw [l5]; rfl
      · rw [gNew_0, gNew_old ⟨fun _ => by omega, fun z => absurd z (by decide)⟩]
        by_cases e0 : d = 0
        · subst e0
          exact AG_JJ hag (by omega) ((hp.1 rfl).2 s hs' hl)
        · rw [(hp.2 (by omega)).1 s hs' hl]; exact JJ_rf (by omega)
    · by_cases hu : UU b.2.1 d (-1) s
      · refine Or.inl ?_
        rcases hu with ⟨e, h1, h2⟩ | hu
        · refine Or.inl ⟨e, h1, ?_⟩
          rw [b16, pk_un (fun z => hl (by rw [← z]; exact h2))]; exact h2
        · exact absurd hu.symm (nIm1 (by omega))
      · rcases s1 s hs' with q | q
        · exact absurd q hu
        · exact Or.inr (AG_Fin hag (by omega) (by omega) oo hs' hu (oU s hs' hu) q)
  · by_cases e : s = S
    · subst e
      by_cases hc2 : kd = 42 ∨ kd = 63
      · exact Or.inl (Or.inr (hxo hc2))
      · refine Or.inr ⟨by rw [gNew_1]; omega, Or.inr (Or.inr (Or.inr ⟨?_, ?_, gNew_6, by rw [gNew_1, gNew_0]⟩))⟩
        · rw [b2, pk_us]; exact fun z => hc2 (Or.inl z)
        · rw [b2, pk_us]; exact fun z => hc2 (Or.inr z)
    have hs' : s < S := by omega
    rcases s2 s hs' with q | q
    · refine Or.inl ?_
      rcases q with ⟨e, h1, h2, h3⟩ | q
      · exact Or.inl ⟨e, h1, h2, by rw [b14]; exact h3⟩
      · exact absurd q.symm (nIm1 (by omega))
    · by_cases ho : OO b.2.1 d (-1) s
      · refine Or.inl ?_
        rcases ho with ⟨e, h1, h2, h3⟩ | q
        · exact Or.inl ⟨e, h1, h2, by rw [b14]; exact h3⟩
        · exact absurd q.symm (nIm1 (by omega))
      · exact Or.inr (AG_CL hag (by omega) (by omega) hs' ho q)
  · by_cases e : s = S
    · subst e; rw [gNew_0]; exact ⟨by omega, gNew_4⟩
    · have hs' : s < S := by omega
      obtain ⟨q1, q2⟩ := s3 s hs'
      rw [gNew_old ⟨fun _ => e, fun z => absurd z (by decide)⟩, gNew_old ⟨fun z => absurd rfl z, fun _ => by omega⟩]
      exact ⟨by omega, q2⟩
  · by_cases e : t = S
    · subst e
      rw [gNew_0, gNew_old ⟨fun _ => by omega, fun z => absurd z (by decide)⟩]
      exact (s3 s hst).1
    · rw [gNew_old ⟨fun _ => by omega, fun z => absurd z (by decide)⟩, gNew_old ⟨fun _ => e, fun z => absurd z (by decide)⟩]
      exact s4 s t hst (by omega)
