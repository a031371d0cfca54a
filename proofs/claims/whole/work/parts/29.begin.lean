/-! ===== the class adds a step ===== -/
theorem nI_sub1 {S : Nat} (h : 1 ≤ S) : nI S - 1 = nI (S - 1) := by
  obtain ⟨k, rfl⟩ : ∃ k, S = k + 1 := ⟨S - 1, by omega⟩
  exact nI_pred k
theorem Cs_zero {b σ : S9} {w : List (Int32 × Int32)} (h : Cs b w σ) : Cs b [] (sF σ 13 0) := by
  obtain ⟨f, g, -, rfl⟩ := h
  refine ⟨f, g, rfl, ?_⟩
  unfold sF
  exact Prod.ext (upd_upd _ _ _ _) rfl
/-- what addsStep leaves alone -/
def ASf (b b' : S9) (S : Nat) : Prop := (∀ k, k ≠ 4 → k ≠ 9 → k ≠ 13 → k ≠ 14 → k ≠ 15 → k ≠ 16 → b'.1 k = b.1 k) ∧ b'.1 4 = nI (S + 1) ∧ b'.1 9 = nI S ∧ b'.1 14 = 0 ∧ b'.1 15 = 0 ∧ b'.1 16 = 1 ∧ b'.2.2 = b.2.2 ∧ b'.2.1 0 = b.2.1 0 ∧ b'.2.1 1 = b.2.1 1
def AS1 (b : S9) (S d pl : Nat) (kd tg : Int32) : S9 := sF (sF (sA (sA (sA (sA (sA (sA (sA (sA b 2 (upd (b.2.1 2) S kd)) 3 (upd (b.2.1 3) S (b.1 10))) 4 (upd (b.2.1 4) S tg)) 5 (upd (b.2.1 5) S (b.2.1 14 d))) 6 (upd (b.2.1 6) S (-1))) 7 (upd (b.2.1 7) S (-1))) 8 (upd (b.2.1 8) S (-1))) 9 (upd (b.2.1 9) S (nI pl))) 4 (nI (S + 1))) 9 (nI S)
def AS2 (b : S9) (k i S d : Nat) : S9 := sF (sF (sF (sA (sA b k (upd (b.2.1 k) i (nI S))) 16 (upd (b.2.1 16) d (nI S))) 14 0) 15 0) 16 1
theorem AS_fr (b : S9) (S d pl k i : Nat) (kd tg : Int32) (hk : k ≠ 0 ∧ k ≠ 1) : ASf b (AS2 (AS1 b S d pl kd tg) k i S d) S := by
  unfold AS2 AS1
  refine ⟨fun j h1 h2 h3 h4 h5 h6 => ?_, ?_, ?_, ?_, ?_, ?_, rfl, ?_, ?_⟩
  · simp only [sF_1, sA_1, upd_at, h1, h2, h4, h5, h6, if_false]
  all_goals simp only [sF_1, sA_1, sF_21, sA_21, upd_at, vup_at, Nat.reduceEqDiff, if_false, ↓reduceIte, Ne.symm hk.1, Ne.symm hk.2]
theorem s_link {b σ : S9} {w : List (Int32 × Int32)} {k i S d : Nat} {Φ : Int32 → S9 → Prop} (h : Cs b w σ) (hk : k ≠ 16) (hk2 : k ≠ 17) (hk3 : k ≠ 18) (k1 : ∀ σ', Cs (AS2 b k i S d) [] σ' → Φ 1 σ') : wp_X1_begin (sA (sA σ k (upd (b.2.1 k) i (nI S))) 16 (upd (b.2.1 16) d (nI S))) (fun σ4 => Φ 1 σ4) := by
  unfold wp_X1_begin
  refine nm_e (nm_e (nm_e (nm_e (k1 _ ?_))))
  unfold AS2
  exact Cs_sF (Cs_sF (Cs_sF (Cs_zero (Cs_sA (Cs_sA h hk2 hk3 _) (by decide) (by decide) _)) (by decide) _) (by decide) _) (by decide) _
theorem s_addsStep {b : S9} {w : List (Int32 × Int32)} {S d prc pl pc : Nat} {kd tg : Int32} (h4 : b.1 4 = nI S) (hS : S < 300) (h6 : b.1 6 = nI d) (hd : d ≤ 20) (h8 : b.1 8 = nI prc) (hp : prc ≤ 26) (h10 : b.1 10 = nI pc) (hkd : vp_nar .char kd = kd)
    (hpl0 : S = 0 → pl = 0) (hpl1 : 1 ≤ S → b.2.1 9 (S - 1) = nI pl) (hl : b.2.1 16 d = -1 ∨ ∃ l : Nat, l < S ∧ b.2.1 16 d = nI l) (ho : b.2.1 14 d = -1 ∨ ∃ o : Nat, o < S ∧ b.2.1 14 d = nI o ∧ (b.2.1 15 d = 0 ∨ b.2.1 15 d = 1)) :
    ∃ b' : S9, ADDB b.2.1 b'.2.1 S d prc pl kd (nI pc) tg ∧ ASf b b' S ∧ ∀ (σ : S9) (Φ : Int32 → S9 → Prop), Cs b w σ → (∀ σ', Cs b' [] σ' → Φ 1 σ') → wp_X0_addsStep kd tg σ Φ := by
  have hin : vp_in (nI S) 300 := pk_in S 300 hS
  have hind : vp_in (nI d) 21 := pk_in d 21 (by omega)
  -- up to linkStep, for any way of linking
  have main : ∀ (b' : S9), (∀ (σ : S9) (Φ : Int32 → S9 → Prop), Cs (AS1 b S d pl kd tg) w σ → (∀ σ', Cs b' [] σ' → Φ 1 σ') → wp_X0_linkStep σ (fun σ3 => wp_X1_begin σ3 (fun σ4 => Φ 1 σ4))) → ∀ (σ : S9) (Φ : Int32 → S9 → Prop), Cs b w σ → (∀ σ', Cs b' [] σ' → Φ 1 σ') → wp_X0_addsStep kd tg σ Φ := by
    intro b' hlink σ Φ hσ k
    unfold wp_X0_addsStep
    have e4 : σ.1 4 = nI S := by rw [Cs_1 hσ (show (4 : Nat) ≠ 13 by decide), h4]
    have e6 : σ.1 6 = nI d := by rw [Cs_1 hσ (show (6 : Nat) ≠ 13 by decide), h6]
    have e10 : σ.1 10 = b.1 10 := Cs_1 hσ (show (10 : Nat) ≠ 13 by decide)
    have r : ∀ k, k ≠ 17 → k ≠ 18 → σ.2.1 k = b.2.1 k := fun k q1 q2 => Cs_2 hσ q1 q2
    rw [e4, e6, e10, r 14 (by decide) (by decide), nI_clamp (by omega)]
    refine pk_eq S 300 (fun e => absurd e (by omega)) (fun _ => ⟨hind, ?_⟩)
    unfold wp_X6_addStep
    rw [e4]
    simp only [forall_eq, nI_clamp (show S < 2 ^ 31 by omega), hkd]
    refine ⟨hin, hin, hin, hin, hin, hin, hin, ?_⟩
    unfold wp_X6_codeStart
    have fin : ∀ x : Int32, x = nI pl → vp_in (nI S) 300 ∧ wp_X0_linkStep (sF (sF (sA (sA (sA (sA (sA (sA (sA (sA σ 2 (upd (σ.2.1 2) S kd)) 3 (upd (σ.2.1 3) S (b.1 10))) 4 (upd (σ.2.1 4) S tg)) 5 (upd (σ.2.1 5) S (b.2.1 14 d))) 6 (upd (σ.2.1 6) S (-1))) 7 (upd (σ.2.1 7) S (-1))) 8 (upd (σ.2.1 8) S (-1))) 9 (upd (σ.2.1 9) S x)) 4 (σ.1 4 + 1)) 9 (nI S)) (fun σ3 => wp_X1_begin σ3 (fun σ4 => Φ 1 σ4)) := by
      intro x hx
      refine ⟨hin, hlink _ Φ ?_ k⟩
      rw [hx, e4, nI_1, r 2 (by decide) (by decide), r 3 (by decide) (by decide), r 4 (by decide) (by decide), r 5 (by decide) (by decide), r 6 (by decide) (by decide), r 7 (by decide) (by decide), r 8 (by decide) (by decide), r 9 (by decide) (by decide)]
      unfold AS1
      exact Cs_sF (Cs_sF (Cs_sA (Cs_sA (Cs_sA (Cs_sA (Cs_sA (Cs_sA (Cs_sA (Cs_sA hσ (by decide) (by decide) _) (by decide) (by decide) _) (by decide) (by decide) _) (by decide) (by decide) _) (by decide) (by decide) _) (by decide) (by decide) _) (by decide) (by decide) _) (by decide) (by decide) _) (by decide) _) (by decide) _
    refine ⟨fun z => ?_, fun z => ⟨?_, ?_⟩⟩
    · have e0 : S = 0 := nIj (by omega) (by omega) (b := 0) z
      have := fin 0 (by rw [hpl0 e0]; rfl)
      exact this
    · have hS0 : 1 ≤ S := by
        rcases Nat.eq_zero_or_pos S with e | e
        · subst e; exact absurd rfl z
        · exact e
      rw [nI_sub1 hS0]; exact pk_in (S - 1) 300 (by omega)
    · have hS0 : 1 ≤ S := by
        rcases Nat.eq_zero_or_pos S with e | e
        · subst e; exact absurd rfl z
        · exact e
      rw [nI_sub1 hS0, nI_clamp (by omega)]
      exact fin _ (by show σ.2.1 9 (S - 1) = nI pl; rw [r 9 (by decide) (by decide)]; exact hpl1 hS0)
  have lk : ∀ (k i : Nat), k ≠ 16 → k ≠ 17 → k ≠ 18 → (∀ (σ : S9) (F : S9 → Prop), Cs (AS1 b S d pl kd tg) w σ → F (sA (sA σ k (upd ((AS1 b S d pl kd tg).2.1 k) i (nI S))) 16 (upd ((AS1 b S d pl kd tg).2.1 16) d (nI S))) → wp_X0_linkStep σ F) →
      ∀ (σ : S9) (Φ : Int32 → S9 → Prop), Cs b w σ → (∀ σ', Cs (AS2 (AS1 b S d pl kd tg) k i S d) [] σ' → Φ 1 σ') → wp_X0_addsStep kd tg σ Φ := by
    intro k i q1 q2 q3 hl
    exact main _ (fun σ Φ hσ kk => hl σ _ hσ (s_link hσ q1 q2 q3 kk))
  -- what linkStep reads
  have rd : ∀ σ : S9, Cs (AS1 b S d pl kd tg) w σ → σ.1 6 = nI d ∧ σ.1 8 = nI prc ∧ σ.1 9 = nI S ∧ σ.2.1 14 = b.2.1 14 ∧ σ.2.1 15 = b.2.1 15 ∧ σ.2.1 16 = b.2.1 16 ∧ ∀ k, k ≠ 17 → k ≠ 18 → σ.2.1 k = (AS1 b S d pl kd tg).2.1 k := by
    intro σ hσ
    have r : ∀ k, k ≠ 17 → k ≠ 18 → σ.2.1 k = (AS1 b S d pl kd tg).2.1 k := fun k q1 q2 => Cs_2 hσ q1 q2
    exact ⟨by rw [Cs_1 hσ (show (6 : Nat) ≠ 13 by decide)]; exact h6, by rw [Cs_1 hσ (show (8 : Nat) ≠ 13 by decide)]; exact h8, by rw [Cs_1 hσ (show (9 : Nat) ≠ 13 by decide)]; rfl, r 14 (by decide) (by decide), r 15 (by decide) (by decide), r 16 (by decide) (by decide), r⟩
  have un : ∀ {a x : Nat} {f : Nat → Int32} {v : Int32}, a ≠ x → upd f x v a = f a := fun h => pk_un h
  rcases hl with hl | ⟨l, hl0, hl⟩
  · rcases ho with ho | ⟨o, ho0, ho, h15⟩
    · -- the first step of a procedure or of the program
      refine ⟨AS2 (AS1 b S d pl kd tg) 12 prc S d, ?_, AS_fr b S d pl 12 prc kd tg (by decide), lk 12 prc (by decide) (by decide) (by decide) (fun σ F hσ hF => ?_)⟩
      · refine ⟨⟨rfl, by rw [← h10]; rfl, rfl, rfl, rfl⟩, ⟨rfl, rfl, rfl, rfl, rfl, rfl⟩, ⟨fun s hs z => un (by omega), pk_us, fun l hl2 z => absurd (hl.symm.trans z) (fun y => nIm1 (by omega) y.symm)⟩, ⟨fun s hs z => un (by omega), pk_us, fun o ho2 z => absurd (ho.symm.trans z) (fun y => nIm1 (by omega) y.symm)⟩, ⟨fun s hs z => un (by omega), pk_us, fun o ho2 z => absurd (ho.symm.trans z) (fun y => nIm1 (by omega) y.symm)⟩, ⟨fun q hq => un (fun y => hq ⟨y, hl, ho⟩), fun _ _ => pk_us⟩⟩
      · obtain ⟨r6, r8, r9, r14, r15, r16, r⟩ := rd σ hσ
        unfold wp_X0_linkStep
        rw [r6, r8, r9, r14, r16, nI_clamp (show d < 2 ^ 31 by omega), nI_clamp (show prc < 2 ^ 31 by omega), hl, ho, r 12 (by decide) (by decide)]
        refine ⟨hind, nm_e ⟨hind, br_t rfl (br_t rfl ⟨pk_in prc 27 (by omega), nm_e ⟨?_, nm_e ?_⟩⟩)⟩⟩
        · show vp_in (σ.1 6) 21
          rw [r6]; exact hind
        · show F (sA _ 16 (upd (σ.2.1 16) (σ.1 6).toNatClampNeg (σ.1 9)))
          rw [r6, r9, nI_clamp (by omega), r 16 (by decide) (by decide)]; exact hF
    · have hno : ¬ (nI o = -1) := nIm1 (by omega)
      rcases h15 with h15 | h15
      · -- the first of a first block
        refine ⟨AS2 (AS1 b S d pl kd tg) 6 o S d, ?_, AS_fr b S d pl 6 o kd tg (by decide), lk 6 o (by decide) (by decide) (by decide) (fun σ F hσ hF => ?_)⟩
        · refine ⟨⟨rfl, by rw [← h10]; rfl, rfl, rfl, rfl⟩, ⟨rfl, rfl, rfl, rfl, rfl, rfl⟩, ⟨fun s hs z => un (by omega), pk_us, fun l hl2 z => absurd (hl.symm.trans z) (fun y => nIm1 (by omega) y.symm)⟩, ⟨fun s hs z => ?_, ?_, fun o2 ho2 z _ _ => ?_⟩, ⟨fun s hs z => un (by omega), pk_us, fun o ho2 z _ z3 => absurd (h15.symm.trans z3) (by decide)⟩, ⟨fun q hq => rfl, fun _ z => absurd (ho.symm.trans z) hno⟩⟩
          · show upd (upd (b.2.1 6) S (-1)) o (nI S) s = _
            rw [pk_un (fun y => z ⟨by rw [y]; exact ho, hl, h15⟩), pk_un (by omega)]
          · show upd (upd (b.2.1 6) S (-1)) o (nI S) S = _
            rw [pk_un (by omega), pk_us]
          · show upd (upd (b.2.1 6) S (-1)) o (nI S) o2 = _
            rw [nIj (by omega) (by omega) (ho.symm.trans z), pk_us]
        · obtain ⟨r6, r8, r9, r14, r15, r16, r⟩ := rd σ hσ
          unfold wp_X0_linkStep
          rw [r6, r9, r14, r15, r16, nI_clamp (show d < 2 ^ 31 by omega), hl, ho, h15, r 6 (by decide) (by decide)]
          refine ⟨hind, nm_e ⟨hind, br_t rfl (br_f hno ⟨hind, br_t rfl ⟨pk_in o 300 (by omega), nm_e ⟨?_, nm_e ?_⟩⟩⟩)⟩⟩
          · show vp_in (σ.1 6) 21
            rw [r6]; exact hind
          · show F (sA _ 16 (upd (σ.2.1 16) (σ.1 6).toNatClampNeg (σ.1 9)))
            rw [r6, r9, nI_clamp (by omega), nI_clamp (by omega), r 16 (by decide) (by decide)]; exact hF
      · refine ⟨AS2 (AS1 b S d pl kd tg) 7 o S d, ?_, AS_fr b S d pl 7 o kd tg (by decide), lk 7 o (by decide) (by decide) (by decide) (fun σ F hσ hF => ?_)⟩
        · refine ⟨⟨rfl, by rw [← h10]; rfl, rfl, rfl, rfl⟩, ⟨rfl, rfl, rfl, rfl, rfl, rfl⟩, ⟨fun s hs z => un (by omega), pk_us, fun l hl2 z => absurd (hl.symm.trans z) (fun y => nIm1 (by omega) y.symm)⟩, ⟨fun s hs z => un (by omega), pk_us, fun o ho2 z _ z3 => absurd (h15.symm.trans z3) (by decide)⟩, ⟨fun s hs z => ?_, ?_, fun o2 ho2 z _ _ => ?_⟩, ⟨fun q hq => rfl, fun _ z => absurd (ho.symm.trans z) hno⟩⟩
          · show upd (upd (b.2.1 7) S (-1)) o (nI S) s = _
            rw [pk_un (fun y => z ⟨by rw [y]; exact ho, hl, h15⟩), pk_un (by omega)]
          · show upd (upd (b.2.1 7) S (-1)) o (nI S) S = _
            rw [pk_un (by omega), pk_us]
          · show upd (upd (b.2.1 7) S (-1)) o (nI S) o2 = _
            rw [nIj (by omega) (by omega) (ho.symm.trans z), pk_us]
        · obtain ⟨r6, r8, r9, r14, r15, r16, r⟩ := rd σ hσ
          unfold wp_X0_linkStep
          rw [r6, r9, r14, r15, r16, nI_clamp (show d < 2 ^ 31 by omega), hl, ho, h15, r 7 (by decide) (by decide)]
          refine ⟨hind, nm_e ⟨hind, br_t rfl (br_f hno ⟨hind, br_f (by decide) ⟨pk_in o 300 (by omega), nm_e ⟨?_, nm_e ?_⟩⟩⟩)⟩⟩
          · show vp_in (σ.1 6) 21
            rw [r6]; exact hind
          · show F (sA _ 16 (upd (σ.2.1 16) (σ.1 6).toNatClampNeg (σ.1 9)))
            rw [r6, r9, nI_clamp (by omega), nI_clamp (by omega), r 16 (by decide) (by decide)]; exact hF
  · have hno : ¬ (nI l = -1) := nIm1 (by omega)
    refine ⟨AS2 (AS1 b S d pl kd tg) 8 l S d, ?_, AS_fr b S d pl 8 l kd tg (by decide), lk 8 l (by decide) (by decide) (by decide) (fun σ F hσ hF => ?_)⟩
    · refine ⟨⟨rfl, by rw [← h10]; rfl, rfl, rfl, rfl⟩, ⟨rfl, rfl, rfl, rfl, rfl, rfl⟩, ⟨fun s hs z => ?_, ?_, fun l2 hl2 z => ?_⟩, ⟨fun s hs z => un (by omega), pk_us, fun o ho2 _ z => absurd (hl.symm.trans z) hno⟩, ⟨fun s hs z => un (by omega), pk_us, fun o ho2 _ z => absurd (hl.symm.trans z) hno⟩, ⟨fun q hq => rfl, fun z => absurd (hl.symm.trans z) hno⟩⟩
      · show upd (upd (b.2.1 8) S (-1)) l (nI S) s = _
        rw [pk_un (fun y => z (by rw [y]; exact hl)), pk_un (by omega)]
      · show upd (upd (b.2.1 8) S (-1)) l (nI S) S = _
        rw [pk_un (by omega), pk_us]
      · show upd (upd (b.2.1 8) S (-1)) l (nI S) l2 = _
        rw [nIj (by omega) (by omega) (hl.symm.trans z), pk_us]
    · obtain ⟨r6, r8, r9, r14, r15, r16, r⟩ := rd σ hσ
      unfold wp_X0_linkStep
      rw [r6, r9, r16, nI_clamp (show d < 2 ^ 31 by omega), hl, r 8 (by decide) (by decide)]
      refine ⟨hind, nm_e ⟨hind, br_f hno ⟨hind, pk_in l 300 (by omega), nm_e ⟨?_, nm_e ?_⟩⟩⟩⟩
      · show vp_in (σ.1 6) 21
        rw [r6]; exact hind
      · show F (sA _ 16 (upd (σ.2.1 16) (σ.1 6).toNatClampNeg (σ.1 9)))
        rw [r6, r9, nI_clamp (by omega), nI_clamp (by omega), r 16 (by decide) (by decide)]; exact hF
