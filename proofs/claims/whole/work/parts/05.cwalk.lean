/-! QueueBench$Text.append(I)V -/
abbrev rm_X8_append : Room := { frames := 0, cells := 0, slots := 0, locals := 0 }
def bd_X8_append_b2 (K2 : Int32 → Int32 → S9 → Prop) (Φ : S9 → Prop) (a1 : Int32) (a2 : Int32) (σ : S9) : Prop := ((32 : Int32) ≤ a2 → Φ σ) ∧ (¬ (32 : Int32) ≤ a2 → ∀ x2 : Int32, x2 = ((ush a1 a2) &&& (255 : Int32)) → (x2 = 0 → ∀ x4 : Int32, x4 = a2 + 8 → K2 a1 x4 σ) ∧ (¬ x2 = 0 → ((3000 : Int32) ≤ (σ.1 2) → ∀ x6 : Int32, x6 = a2 + 8 → K2 a1 x6 σ) ∧ (¬ (3000 : Int32) ≤ (σ.1 2) → vp_in (σ.1 2) 3000 ∧ ∀ σ1 : S9, σ1 = sA σ 0 (upd (σ.2.1 0) ((σ.1 2)).toNatClampNeg (vp_nar .char (i2c x2))) → ∀ σ2 : S9, σ2 = sF σ1 2 ((σ1.1 2) + (1 : Int32)) → ∀ x8 : Int32, x8 = a2 + 8 → K2 a1 x8 σ2)))
def lp_X8_append_b2  (Φ : S9 → Prop) : Nat → Int32 → Int32 → S9 → Prop
  | 0 => fun _ _ _ => False
  | n + 1 => bd_X8_append_b2  (lp_X8_append_b2  Φ n) Φ
def wp_X8_append (a1 : Int32) (σ : S9) (Φ : S9 → Prop) : Prop := ∀ x1 : Int32, x1 = (0 : Int32) → ∃ n : Nat, lp_X8_append_b2  Φ n a1 x1 σ
theorem dX8_append_0 : decode cX8_append 0 = .ok (.iconst 0, 1) := by decide +kernel
theorem dX8_append_1 : decode cX8_append 1 = .ok (.istore_n 2, 1) := by decide +kernel
theorem dX8_append_2 : decode cX8_append 2 = .ok (.iload_n 2, 1) := by decide +kernel
theorem dX8_append_3 : decode cX8_append 3 = .ok (.bipush 32, 2) := by decide +kernel
theorem dX8_append_5 : decode cX8_append 5 = .ok (.if_icmp .ge 52, 3) := by decide +kernel
theorem dX8_append_8 : decode cX8_append 8 = .ok (.iload_n 1, 1) := by decide +kernel
theorem dX8_append_9 : decode cX8_append 9 = .ok (.iload_n 2, 1) := by decide +kernel
theorem dX8_append_10 : decode cX8_append 10 = .ok (.iushr, 1) := by decide +kernel
theorem dX8_append_11 : decode cX8_append 11 = .ok (.sipush 255, 3) := by decide +kernel
theorem dX8_append_14 : decode cX8_append 14 = .ok (.iand, 1) := by decide +kernel
theorem dX8_append_15 : decode cX8_append 15 = .ok (.istore_n 3, 1) := by decide +kernel
theorem dX8_append_16 : decode cX8_append 16 = .ok (.iload_n 3, 1) := by decide +kernel
theorem dX8_append_17 : decode cX8_append 17 = .ok (.ifCond .eq 34, 3) := by decide +kernel
theorem dX8_append_20 : decode cX8_append 20 = .ok (.aload_n 0, 1) := by decide +kernel
theorem dX8_append_21 : decode cX8_append 21 = .ok (.getfield 15, 3) := by decide +kernel
theorem dX8_append_24 : decode cX8_append 24 = .ok (.sipush 3000, 3) := by decide +kernel
theorem dX8_append_27 : decode cX8_append 27 = .ok (.if_icmp .ge 24, 3) := by decide +kernel
theorem dX8_append_30 : decode cX8_append 30 = .ok (.aload_n 0, 1) := by decide +kernel
theorem dX8_append_31 : decode cX8_append 31 = .ok (.getfield 9, 3) := by decide +kernel
theorem dX8_append_34 : decode cX8_append 34 = .ok (.aload_n 0, 1) := by decide +kernel
theorem dX8_append_35 : decode cX8_append 35 = .ok (.getfield 15, 3) := by decide +kernel
theorem dX8_append_38 : decode cX8_append 38 = .ok (.iload_n 3, 1) := by decide +kernel
theorem dX8_append_39 : decode cX8_append 39 = .ok (.i2c, 1) := by decide +kernel
theorem dX8_append_40 : decode cX8_append 40 = .ok (.castore, 1) := by decide +kernel
theorem dX8_append_41 : decode cX8_append 41 = .ok (.aload_n 0, 1) := by decide +kernel
theorem dX8_append_42 : decode cX8_append 42 = .ok (.dup, 1) := by decide +kernel
theorem dX8_append_43 : decode cX8_append 43 = .ok (.getfield 15, 3) := by decide +kernel
theorem dX8_append_46 : decode cX8_append 46 = .ok (.iconst 1, 1) := by decide +kernel
theorem dX8_append_47 : decode cX8_append 47 = .ok (.iadd, 1) := by decide +kernel
theorem dX8_append_48 : decode cX8_append 48 = .ok (.putfield 15, 3) := by decide +kernel
theorem dX8_append_51 : decode cX8_append 51 = .ok (.iinc 2 8, 3) := by decide +kernel
theorem dX8_append_54 : decode cX8_append 54 = .ok (.goto (-52), 3) := by decide +kernel
theorem dX8_append_57 : decode cX8_append 57 = .ok (.return_, 1) := by decide +kernel
set_option maxRecDepth 20000 in
set_option maxHeartbeats 4000000 in
theorem tb_X8_append_b2 {p : Program} {l : Launch} {e : Env} {s : State} {m : MethodId} {args : Array Value} {below : List Frame} {meth : Method} {c : Code} {G : GG} {Φ : S9 → Prop} {K2 : Int32 → Int32 → S9 → Prop} (hE : Ev 40 G p s m args c cX8_append RX8) (hml : c.maxLocals = 4) (hr : meth.sig.returnType = none) (hlk : meth.locks = false) (hK2 : ∀ (a1 : Int32) (a2 : Int32) (σ : S9) (H : Heap) (locs : List Loc) (ls : Array Slot), K2 a1 a2 σ → Pic cwl 40 G σ s.heap H locs → lv_has ls 4 [(0, .ref (gAd G 1)), (1, .int a1), (2, .int a2)] → W p l e rm_X8_append s m args below meth c H locs 0 0 (QV cwl 40 G below args s Φ) (F0 m 2 ls [])) {a1 : Int32} {a2 : Int32} {σ : S9} {H : Heap} {locs : List Loc} {ls : Array Slot} (hq : bd_X8_append_b2 K2 Φ a1 a2 σ) (hw : Pic cwl 40 G σ s.heap H locs) (hl : lv_has ls 4 [(0, .ref (gAd G 1)), (1, .int a1), (2, .int a2)]) : W p l e rm_X8_append s m args below meth c H locs 0 0 (QV cwl 40 G below args s Φ) (F0 m 2 ls []) := by
  unfold bd_X8_append_b2 at hq
  refine lv_iload_n hE.1 hE.2.1 dX8_append_2 rfl (lv_at hl 2 rfl) ?_
  refine lv_bipush (v := (32 : Int32)) hE.1 hE.2.1 dX8_append_3 (by decide) ?_
  refine lv_icmp_ge (tgt := 57) hE.1 hE.2.1 dX8_append_5 (by decide) (fun c1 => ?_) (fun c1 => ?_)
  · have hq := hq.1 c1
    exact rtV hE hr hlk hw hq dX8_append_57
  · have hq := hq.2 c1
    refine lv_iload_n hE.1 hE.2.1 dX8_append_8 rfl (lv_at hl 1 rfl) ?_
    refine lv_iload_n hE.1 hE.2.1 dX8_append_9 rfl (lv_at hl 2 rfl) ?_
    refine lv_iushr (v := (ush a1 a2)) hE.1 hE.2.1 dX8_append_10 rfl ?_
    refine lv_sipush (v := (255 : Int32)) hE.1 hE.2.1 dX8_append_11 (by decide) ?_
    refine lv_iand hE.1 hE.2.1 dX8_append_14 ?_
    refine lv_topi (fun x2 ex2 => ?_)
    have hq := hq x2 ex2
    refine lv_istore_n (lv' := [(3, .int x2), (0, .ref (gAd G 1)), (1, .int a1), (2, .int a2)]) hE.1 hE.2.1 dX8_append_15 rfl hl (by decide) rfl (fun ls hl => ?_)
    refine lv_iload_n hE.1 hE.2.1 dX8_append_16 rfl (lv_at hl 0 rfl) ?_
    refine lv_if_eq (tgt := 51) hE.1 hE.2.1 dX8_append_17 (by decide) (fun c3 => ?_) (fun c3 => ?_)
    · have hq := hq.1 c3
      obtain ⟨x4, ex4⟩ : ∃ y : Int32, y = a2 + 8 := ⟨_, rfl⟩
      have hq := hq x4 ex4
      refine lv_iinc (v := x4) (lv' := [(2, .int x4), (3, .int x2), (0, .ref (gAd G 1)), (1, .int a1)]) hE.1 hE.2.1 dX8_append_51 hl (k := 3) rfl (by rw [ex4]; rfl) (by decide) rfl (fun ls hl => ?_)
      refine lv_goto (tgt := 2) hE.1 hE.2.1 dX8_append_54 (by decide) ?_
      exact hK2 _ _ _ _ _ _ hq hw (lv_sub hl [2, 3, 0] rfl)
    · have hq := hq.2 c3
      refine lv_aload_n hE.1 hE.2.1 dX8_append_20 rfl (lv_at hl 1 rfl) ?_
      refine cgf_X8_15 hE hw dX8_append_21 ?_
      refine lv_sipush (v := (3000 : Int32)) hE.1 hE.2.1 dX8_append_24 (by decide) ?_
      refine lv_icmp_ge (tgt := 51) hE.1 hE.2.1 dX8_append_27 (by decide) (fun c5 => ?_) (fun c5 => ?_)
      · have hq := hq.1 c5
        obtain ⟨x6, ex6⟩ : ∃ y : Int32, y = a2 + 8 := ⟨_, rfl⟩
        have hq := hq x6 ex6
        refine lv_iinc (v := x6) (lv' := [(2, .int x6), (3, .int x2), (0, .ref (gAd G 1)), (1, .int a1)]) hE.1 hE.2.1 dX8_append_51 hl (k := 3) rfl (by rw [ex6]; rfl) (by decide) rfl (fun ls hl => ?_)
        refine lv_goto (tgt := 2) hE.1 hE.2.1 dX8_append_54 (by decide) ?_
        exact hK2 _ _ _ _ _ _ hq hw (lv_sub hl [2, 3, 0] rfl)
      · have hq := hq.2 c5
        refine lv_aload_n hE.1 hE.2.1 dX8_append_30 rfl (lv_at hl 1 rfl) ?_
        refine cgf_X8_9 hE hw dX8_append_31 ?_
        refine lv_aload_n hE.1 hE.2.1 dX8_append_34 rfl (lv_at hl 1 rfl) ?_
        refine cgf_X8_15 hE hw dX8_append_35 ?_
        refine lv_iload_n hE.1 hE.2.1 dX8_append_38 rfl (lv_at hl 0 rfl) ?_
        refine lv_i2c (v := (i2c x2)) hE.1 hE.2.1 dX8_append_39 rfl ?_
        obtain ⟨hi7, hq⟩ := hq
        refine cas_12 hE hw hi7 dX8_append_40 (fun σ1 eσ1 H locs hw => ?_)
        have hq := hq σ1 eσ1
        refine lv_aload_n hE.1 hE.2.1 dX8_append_41 rfl (lv_at hl 1 rfl) ?_
        refine lv_dup hE.1 hE.2.1 dX8_append_42 rfl ?_
        refine cgf_X8_15 hE hw dX8_append_43 ?_
        refine lv_iconst (v := (1 : Int32)) hE.1 hE.2.1 dX8_append_46 (by decide) ?_
        refine lv_iadd hE.1 hE.2.1 dX8_append_47 ?_
        refine cpf_X8_15 hE hw dX8_append_48 (fun σ2 eσ2 H locs hw => ?_)
        have hq := hq σ2 eσ2
        obtain ⟨x8, ex8⟩ : ∃ y : Int32, y = a2 + 8 := ⟨_, rfl⟩
        have hq := hq x8 ex8
        refine lv_iinc (v := x8) (lv' := [(2, .int x8), (3, .int x2), (0, .ref (gAd G 1)), (1, .int a1)]) hE.1 hE.2.1 dX8_append_51 hl (k := 3) rfl (by rw [ex8]; rfl) (by decide) rfl (fun ls hl => ?_)
        refine lv_goto (tgt := 2) hE.1 hE.2.1 dX8_append_54 (by decide) ?_
        exact hK2 _ _ _ _ _ _ hq hw (lv_sub hl [2, 3, 0] rfl)
theorem tl_X8_append_b2 {p : Program} {l : Launch} {e : Env} {s : State} {m : MethodId} {args : Array Value} {below : List Frame} {meth : Method} {c : Code} {G : GG} {Φ : S9 → Prop}  (hE : Ev 40 G p s m args c cX8_append RX8) (hml : c.maxLocals = 4) (hr : meth.sig.returnType = none) (hlk : meth.locks = false)  : ∀ (n : Nat) (a1 : Int32) (a2 : Int32) (σ : S9) (H : Heap) (locs : List Loc) (ls : Array Slot), lp_X8_append_b2  Φ n a1 a2 σ → Pic cwl 40 G σ s.heap H locs → lv_has ls 4 [(0, .ref (gAd G 1)), (1, .int a1), (2, .int a2)] → W p l e rm_X8_append s m args below meth c H locs 0 0 (QV cwl 40 G below args s Φ) (F0 m 2 ls []) := by
  intro n
  induction n with
  | zero => intro _ _ _ _ _ _ hq; exact hq.elim
  | succ n ih => intro _ _ _ _ _ _ hq hw hl; exact tb_X8_append_b2 hE hml hr hlk  ih hq hw hl
set_option maxRecDepth 20000 in
set_option maxHeartbeats 4000000 in
theorem c_X8_append {G : GG} (hJ : gJ 40 G) (l : Launch) (a1 : Int32) (σ : S9) (Φ : S9 → Prop) (hq : wp_X8_append a1 σ Φ) : CV cwl 40 G l yX8_append cX8_append 4 rm_X8_append [.ref (gAd G 1), .int a1] σ Φ := by
  refine CV.intro (by decide) (Nat.le_of_ble_eq_true rfl) hJ ?_
  intro p e s m args below meth c ls hE hml hr hlk hw hl
  have hl : lv_has ls 4 [(0, .ref (gAd G 1)), (1, .int a1)] := hl
  unfold wp_X8_append at hq
  refine lv_iconst (v := (0 : Int32)) hE.1 hE.2.1 dX8_append_0 (by decide) ?_
  refine lv_topi (fun x1 ex1 => ?_)
  have hq := hq x1 ex1
  refine lv_istore_n (lv' := [(2, .int x1), (0, .ref (gAd G 1)), (1, .int a1)]) hE.1 hE.2.1 dX8_append_1 rfl hl (by decide) rfl (fun ls hl => ?_)
  obtain ⟨nn, hq⟩ := hq
  exact tl_X8_append_b2 hE hml hr hlk  nn _ _ _ _ _ _ hq hw (lv_sub hl [1, 2, 0] rfl)
/-! QueueBench$Input.append(I)V -/
abbrev rm_X2_append : Room := { frames := 0, cells := 0, slots := 0, locals := 0 }
def wp_X2_append (a1 : Int32) (σ : S9) (Φ : S9 → Prop) : Prop := vp_in (σ.1 3) 300 ∧ ∀ σ1 : S9, σ1 = sA σ 1 (upd (σ.2.1 1) ((σ.1 3)).toNatClampNeg a1) → ∀ σ2 : S9, σ2 = sF σ1 3 ((σ1.1 3) + (1 : Int32)) → Φ σ2
theorem dX2_append_0 : decode cX2_append 0 = .ok (.aload_n 0, 1) := by decide +kernel
theorem dX2_append_1 : decode cX2_append 1 = .ok (.getfield 9, 3) := by decide +kernel
theorem dX2_append_4 : decode cX2_append 4 = .ok (.aload_n 0, 1) := by decide +kernel
theorem dX2_append_5 : decode cX2_append 5 = .ok (.getfield 15, 3) := by decide +kernel
theorem dX2_append_8 : decode cX2_append 8 = .ok (.iload_n 1, 1) := by decide +kernel
theorem dX2_append_9 : decode cX2_append 9 = .ok (.iastore, 1) := by decide +kernel
theorem dX2_append_10 : decode cX2_append 10 = .ok (.aload_n 0, 1) := by decide +kernel
theorem dX2_append_11 : decode cX2_append 11 = .ok (.dup, 1) := by decide +kernel
theorem dX2_append_12 : decode cX2_append 12 = .ok (.getfield 15, 3) := by decide +kernel
theorem dX2_append_15 : decode cX2_append 15 = .ok (.iconst 1, 1) := by decide +kernel
theorem dX2_append_16 : decode cX2_append 16 = .ok (.iadd, 1) := by decide +kernel
theorem dX2_append_17 : decode cX2_append 17 = .ok (.putfield 15, 3) := by decide +kernel
theorem dX2_append_20 : decode cX2_append 20 = .ok (.return_, 1) := by decide +kernel
set_option maxRecDepth 20000 in
set_option maxHeartbeats 4000000 in
theorem c_X2_append {G : GG} (hJ : gJ 40 G) (l : Launch) (a1 : Int32) (σ : S9) (Φ : S9 → Prop) (hq : wp_X2_append a1 σ Φ) : CV cwl 40 G l yX2_append cX2_append 2 rm_X2_append [.ref (gAd G 2), .int a1] σ Φ := by
  refine CV.intro (by decide) (Nat.le_of_ble_eq_true rfl) hJ ?_
  intro p e s m args below meth c ls hE hml hr hlk hw hl
  have hl : lv_has ls 2 [(0, .ref (gAd G 2)), (1, .int a1)] := hl
  unfold wp_X2_append at hq
  refine lv_aload_n hE.1 hE.2.1 dX2_append_0 rfl (lv_at hl 0 rfl) ?_
  refine cgf_X2_9 hE hw dX2_append_1 ?_
  refine lv_aload_n hE.1 hE.2.1 dX2_append_4 rfl (lv_at hl 0 rfl) ?_
  refine cgf_X2_15 hE hw dX2_append_5 ?_
  refine lv_iload_n hE.1 hE.2.1 dX2_append_8 rfl (lv_at hl 1 rfl) ?_
  obtain ⟨hi1, hq⟩ := hq
  refine cas_13 hE hw hi1 dX2_append_9 (fun σ1 eσ1 H locs hw => ?_)
  have hq := hq σ1 eσ1
  refine lv_aload_n hE.1 hE.2.1 dX2_append_10 rfl (lv_at hl 0 rfl) ?_
  refine lv_dup hE.1 hE.2.1 dX2_append_11 rfl ?_
  refine cgf_X2_15 hE hw dX2_append_12 ?_
  refine lv_iconst (v := (1 : Int32)) hE.1 hE.2.1 dX2_append_15 (by decide) ?_
  refine lv_iadd hE.1 hE.2.1 dX2_append_16 ?_
  refine cpf_X2_15 hE hw dX2_append_17 (fun σ2 eσ2 H locs hw => ?_)
  have hq := hq σ2 eσ2
  exact rtV hE hr hlk hw hq dX2_append_20
/-! QueueBench$Outputs.append(I)V -/
abbrev rm_X5_append : Room := { frames := 0, cells := 0, slots := 0, locals := 0 }
def wp_X5_append (a1 : Int32) (σ : S9) (Φ : S9 → Prop) : Prop := vp_in ((σ.1 17) - (σ.1 17) / (200 : Int32) * (200 : Int32)) 200 ∧ ∀ σ1 : S9, σ1 = sA σ 19 (upd (σ.2.1 19) (((σ.1 17) - (σ.1 17) / (200 : Int32) * (200 : Int32))).toNatClampNeg a1) → ∀ σ2 : S9, σ2 = sF σ1 17 ((σ1.1 17) + (1 : Int32)) → Φ σ2
theorem dX5_append_0 : decode cX5_append 0 = .ok (.aload_n 0, 1) := by decide +kernel
theorem dX5_append_1 : decode cX5_append 1 = .ok (.getfield 9, 3) := by decide +kernel
theorem dX5_append_4 : decode cX5_append 4 = .ok (.aload_n 0, 1) := by decide +kernel
theorem dX5_append_5 : decode cX5_append 5 = .ok (.getfield 15, 3) := by decide +kernel
theorem dX5_append_8 : decode cX5_append 8 = .ok (.sipush 200, 3) := by decide +kernel
theorem dX5_append_11 : decode cX5_append 11 = .ok (.irem, 1) := by decide +kernel
theorem dX5_append_12 : decode cX5_append 12 = .ok (.iload_n 1, 1) := by decide +kernel
theorem dX5_append_13 : decode cX5_append 13 = .ok (.iastore, 1) := by decide +kernel
theorem dX5_append_14 : decode cX5_append 14 = .ok (.aload_n 0, 1) := by decide +kernel
theorem dX5_append_15 : decode cX5_append 15 = .ok (.dup, 1) := by decide +kernel
theorem dX5_append_16 : decode cX5_append 16 = .ok (.getfield 15, 3) := by decide +kernel
theorem dX5_append_19 : decode cX5_append 19 = .ok (.iconst 1, 1) := by decide +kernel
theorem dX5_append_20 : decode cX5_append 20 = .ok (.iadd, 1) := by decide +kernel
theorem dX5_append_21 : decode cX5_append 21 = .ok (.putfield 15, 3) := by decide +kernel
theorem dX5_append_24 : decode cX5_append 24 = .ok (.return_, 1) := by decide +kernel
set_option maxRecDepth 20000 in
set_option maxHeartbeats 4000000 in
theorem c_X5_append {G : GG} (hJ : gJ 40 G) (l : Launch) (a1 : Int32) (σ : S9) (Φ : S9 → Prop) (hq : wp_X5_append a1 σ Φ) : CV cwl 40 G l yX5_append cX5_append 2 rm_X5_append [.ref (gAd G 7), .int a1] σ Φ := by
  refine CV.intro (by decide) (Nat.le_of_ble_eq_true rfl) hJ ?_
  intro p e s m args below meth c ls hE hml hr hlk hw hl
  have hl : lv_has ls 2 [(0, .ref (gAd G 7)), (1, .int a1)] := hl
  unfold wp_X5_append at hq
  refine lv_aload_n hE.1 hE.2.1 dX5_append_0 rfl (lv_at hl 0 rfl) ?_
  refine cgf_X5_9 hE hw dX5_append_1 ?_
  refine lv_aload_n hE.1 hE.2.1 dX5_append_4 rfl (lv_at hl 0 rfl) ?_
  refine cgf_X5_15 hE hw dX5_append_5 ?_
  refine lv_sipush (v := (200 : Int32)) hE.1 hE.2.1 dX5_append_8 (by decide) ?_
  refine lv_irem hE.1 hE.2.1 dX5_append_11 (by decide) ?_
  refine lv_iload_n hE.1 hE.2.1 dX5_append_12 rfl (lv_at hl 1 rfl) ?_
  obtain ⟨hi1, hq⟩ := hq
  refine cas_31 hE hw hi1 dX5_append_13 (fun σ1 eσ1 H locs hw => ?_)
  have hq := hq σ1 eσ1
  refine lv_aload_n hE.1 hE.2.1 dX5_append_14 rfl (lv_at hl 0 rfl) ?_
  refine lv_dup hE.1 hE.2.1 dX5_append_15 rfl ?_
  refine cgf_X5_15 hE hw dX5_append_16 ?_
  refine lv_iconst (v := (1 : Int32)) hE.1 hE.2.1 dX5_append_19 (by decide) ?_
  refine lv_iadd hE.1 hE.2.1 dX5_append_20 ?_
  refine cpf_X5_15 hE hw dX5_append_21 (fun σ2 eσ2 H locs hw => ?_)
  have hq := hq σ2 eσ2
  exact rtV hE hr hlk hw hq dX5_append_24
/-! QueueBench$Outputs.keeps(I)Z -/
abbrev rm_X5_keeps : Room := { frames := 0, cells := 0, slots := 0, locals := 0 }
def wp_X5_keeps (a1 : Int32) (σ : S9) (Φ : Int32 → S9 → Prop) : Prop := (a1 < 0 → Φ (0 : Int32) σ) ∧ (¬ a1 < 0 → ((σ.1 17) ≤ a1 → Φ (0 : Int32) σ) ∧ (¬ (σ.1 17) ≤ a1 → (a1 < ((σ.1 17) - (200 : Int32)) → Φ (0 : Int32) σ) ∧ (¬ a1 < ((σ.1 17) - (200 : Int32)) → Φ (1 : Int32) σ)))
theorem dX5_keeps_0 : decode cX5_keeps 0 = .ok (.iload_n 1, 1) := by decide +kernel
theorem dX5_keeps_1 : decode cX5_keeps 1 = .ok (.ifCond .lt 27, 3) := by decide +kernel
theorem dX5_keeps_4 : decode cX5_keeps 4 = .ok (.iload_n 1, 1) := by decide +kernel
theorem dX5_keeps_5 : decode cX5_keeps 5 = .ok (.aload_n 0, 1) := by decide +kernel
theorem dX5_keeps_6 : decode cX5_keeps 6 = .ok (.getfield 15, 3) := by decide +kernel
theorem dX5_keeps_9 : decode cX5_keeps 9 = .ok (.if_icmp .ge 19, 3) := by decide +kernel
theorem dX5_keeps_12 : decode cX5_keeps 12 = .ok (.iload_n 1, 1) := by decide +kernel
theorem dX5_keeps_13 : decode cX5_keeps 13 = .ok (.aload_n 0, 1) := by decide +kernel
theorem dX5_keeps_14 : decode cX5_keeps 14 = .ok (.getfield 15, 3) := by decide +kernel
theorem dX5_keeps_17 : decode cX5_keeps 17 = .ok (.sipush 200, 3) := by decide +kernel
theorem dX5_keeps_20 : decode cX5_keeps 20 = .ok (.isub, 1) := by decide +kernel
theorem dX5_keeps_21 : decode cX5_keeps 21 = .ok (.if_icmp .lt 7, 3) := by decide +kernel
theorem dX5_keeps_24 : decode cX5_keeps 24 = .ok (.iconst 1, 1) := by decide +kernel
theorem dX5_keeps_25 : decode cX5_keeps 25 = .ok (.goto 4, 3) := by decide +kernel
theorem dX5_keeps_28 : decode cX5_keeps 28 = .ok (.iconst 0, 1) := by decide +kernel
theorem dX5_keeps_29 : decode cX5_keeps 29 = .ok (.ireturn, 1) := by decide +kernel
set_option maxRecDepth 20000 in
set_option maxHeartbeats 4000000 in
theorem c_X5_keeps {G : GG} (hJ : gJ 40 G) (l : Launch) (a1 : Int32) (σ : S9) (Φ : Int32 → S9 → Prop) (hq : wp_X5_keeps a1 σ Φ) : CI cwl 40 G l yX5_keeps cX5_keeps 2 (some .boolean) rm_X5_keeps [.ref (gAd G 7), .int a1] σ Φ := by
  refine CI.intro (by decide) (Nat.le_of_ble_eq_true rfl) hJ ?_
  intro p e s m args below meth c ls hE hml hr hlk hw hl
  have hl : lv_has ls 2 [(0, .ref (gAd G 7)), (1, .int a1)] := hl
  unfold wp_X5_keeps at hq
  refine lv_iload_n hE.1 hE.2.1 dX5_keeps_0 rfl (lv_at hl 1 rfl) ?_
  refine lv_if_lt (tgt := 28) hE.1 hE.2.1 dX5_keeps_1 (by decide) (fun c1 => ?_) (fun c1 => ?_)
  · have hq := hq.1 c1
    refine lv_iconst (v := (0 : Int32)) hE.1 hE.2.1 dX5_keeps_28 (by decide) ?_
    exact rtZ hE hr hlk rfl hw hq dX5_keeps_29
  · have hq := hq.2 c1
    refine lv_iload_n hE.1 hE.2.1 dX5_keeps_4 rfl (lv_at hl 1 rfl) ?_
    refine lv_aload_n hE.1 hE.2.1 dX5_keeps_5 rfl (lv_at hl 0 rfl) ?_
    refine cgf_X5_15 hE hw dX5_keeps_6 ?_
    refine lv_icmp_ge (tgt := 28) hE.1 hE.2.1 dX5_keeps_9 (by decide) (fun c2 => ?_) (fun c2 => ?_)
    · have hq := hq.1 c2
      refine lv_iconst (v := (0 : Int32)) hE.1 hE.2.1 dX5_keeps_28 (by decide) ?_
      exact rtZ hE hr hlk rfl hw hq dX5_keeps_29
    · have hq := hq.2 c2
      refine lv_iload_n hE.1 hE.2.1 dX5_keeps_12 rfl (lv_at hl 1 rfl) ?_
      refine lv_aload_n hE.1 hE.2.1 dX5_keeps_13 rfl (lv_at hl 0 rfl) ?_
      refine cgf_X5_15 hE hw dX5_keeps_14 ?_
      refine lv_sipush (v := (200 : Int32)) hE.1 hE.2.1 dX5_keeps_17 (by decide) ?_
      refine lv_isub hE.1 hE.2.1 dX5_keeps_20 ?_
      refine lv_icmp_lt (tgt := 28) hE.1 hE.2.1 dX5_keeps_21 (by decide) (fun c3 => ?_) (fun c3 => ?_)
      · have hq := hq.1 c3
        refine lv_iconst (v := (0 : Int32)) hE.1 hE.2.1 dX5_keeps_28 (by decide) ?_
        exact rtZ hE hr hlk rfl hw hq dX5_keeps_29
      · have hq := hq.2 c3
        refine lv_iconst (v := (1 : Int32)) hE.1 hE.2.1 dX5_keeps_24 (by decide) ?_
        refine lv_goto (tgt := 29) hE.1 hE.2.1 dX5_keeps_25 (by decide) ?_
        exact rtZ hE hr hlk rfl hw hq dX5_keeps_29
/-! QueueBench$Outputs.at(I)I -/
abbrev rm_X5_at : Room := { frames := 0, cells := 0, slots := 0, locals := 0 }
def wp_X5_at (a1 : Int32) (σ : S9) (Φ : Int32 → S9 → Prop) : Prop := vp_in (a1 - a1 / (200 : Int32) * (200 : Int32)) 200 ∧ Φ (σ.2.1 19 ((a1 - a1 / (200 : Int32) * (200 : Int32))).toNatClampNeg) σ
theorem dX5_at_0 : decode cX5_at 0 = .ok (.aload_n 0, 1) := by decide +kernel
theorem dX5_at_1 : decode cX5_at 1 = .ok (.getfield 9, 3) := by decide +kernel
theorem dX5_at_4 : decode cX5_at 4 = .ok (.iload_n 1, 1) := by decide +kernel
theorem dX5_at_5 : decode cX5_at 5 = .ok (.sipush 200, 3) := by decide +kernel
theorem dX5_at_8 : decode cX5_at 8 = .ok (.irem, 1) := by decide +kernel
theorem dX5_at_9 : decode cX5_at 9 = .ok (.iaload, 1) := by decide +kernel
theorem dX5_at_10 : decode cX5_at 10 = .ok (.ireturn, 1) := by decide +kernel
set_option maxRecDepth 20000 in
set_option maxHeartbeats 4000000 in
theorem c_X5_at {G : GG} (hJ : gJ 40 G) (l : Launch) (a1 : Int32) (σ : S9) (Φ : Int32 → S9 → Prop) (hq : wp_X5_at a1 σ Φ) : CI cwl 40 G l yX5_at cX5_at 2 (some .int) rm_X5_at [.ref (gAd G 7), .int a1] σ Φ := by
  refine CI.intro (by decide) (Nat.le_of_ble_eq_true rfl) hJ ?_
  intro p e s m args below meth c ls hE hml hr hlk hw hl
  have hl : lv_has ls 2 [(0, .ref (gAd G 7)), (1, .int a1)] := hl
  unfold wp_X5_at at hq
  refine lv_aload_n hE.1 hE.2.1 dX5_at_0 rfl (lv_at hl 0 rfl) ?_
  refine cgf_X5_9 hE hw dX5_at_1 ?_
  refine lv_iload_n hE.1 hE.2.1 dX5_at_4 rfl (lv_at hl 1 rfl) ?_
  refine lv_sipush (v := (200 : Int32)) hE.1 hE.2.1 dX5_at_5 (by decide) ?_
  refine lv_irem hE.1 hE.2.1 dX5_at_8 (by decide) ?_
  obtain ⟨hi1, hq⟩ := hq
  refine cal_31 hE hw hi1 dX5_at_9 ?_
  exact rtI hE hr hlk hw hq dX5_at_10
/-! QueueBench$Program.stepAt(I)I -/
abbrev rm_X6_stepAt : Room := { frames := 0, cells := 0, slots := 0, locals := 0 }
def bd_X6_stepAt_b2 (K2 : Int32 → Int32 → S9 → Prop) (Φ : Int32 → S9 → Prop) (a1 : Int32) (a2 : Int32) (σ : S9) : Prop := ((σ.1 4) ≤ a2 → Φ (-1 : Int32) σ) ∧ (¬ (σ.1 4) ≤ a2 → vp_in a2 300 ∧ ((σ.2.1 3 (a2).toNatClampNeg) = a1 → Φ a2 σ) ∧ (¬ (σ.2.1 3 (a2).toNatClampNeg) = a1 → ∀ x4 : Int32, x4 = a2 + 1 → K2 a1 x4 σ))
def lp_X6_stepAt_b2  (Φ : Int32 → S9 → Prop) : Nat → Int32 → Int32 → S9 → Prop
  | 0 => fun _ _ _ => False
  | n + 1 => bd_X6_stepAt_b2  (lp_X6_stepAt_b2  Φ n) Φ
def wp_X6_stepAt (a1 : Int32) (σ : S9) (Φ : Int32 → S9 → Prop) : Prop := ∀ x1 : Int32, x1 = (0 : Int32) → ∃ n : Nat, lp_X6_stepAt_b2  Φ n a1 x1 σ
theorem dX6_stepAt_0 : decode cX6_stepAt 0 = .ok (.iconst 0, 1) := by decide +kernel
theorem dX6_stepAt_1 : decode cX6_stepAt 1 = .ok (.istore_n 2, 1) := by decide +kernel
theorem dX6_stepAt_2 : decode cX6_stepAt 2 = .ok (.iload_n 2, 1) := by decide +kernel
theorem dX6_stepAt_3 : decode cX6_stepAt 3 = .ok (.aload_n 0, 1) := by decide +kernel
theorem dX6_stepAt_4 : decode cX6_stepAt 4 = .ok (.getfield 46, 3) := by decide +kernel
theorem dX6_stepAt_7 : decode cX6_stepAt 7 = .ok (.if_icmp .ge 21, 3) := by decide +kernel
theorem dX6_stepAt_10 : decode cX6_stepAt 10 = .ok (.aload_n 0, 1) := by decide +kernel
theorem dX6_stepAt_11 : decode cX6_stepAt 11 = .ok (.getfield 15, 3) := by decide +kernel
theorem dX6_stepAt_14 : decode cX6_stepAt 14 = .ok (.iload_n 2, 1) := by decide +kernel
theorem dX6_stepAt_15 : decode cX6_stepAt 15 = .ok (.iaload, 1) := by decide +kernel
theorem dX6_stepAt_16 : decode cX6_stepAt 16 = .ok (.iload_n 1, 1) := by decide +kernel
theorem dX6_stepAt_17 : decode cX6_stepAt 17 = .ok (.if_icmp .ne 5, 3) := by decide +kernel
theorem dX6_stepAt_20 : decode cX6_stepAt 20 = .ok (.iload_n 2, 1) := by decide +kernel
theorem dX6_stepAt_21 : decode cX6_stepAt 21 = .ok (.ireturn, 1) := by decide +kernel
theorem dX6_stepAt_22 : decode cX6_stepAt 22 = .ok (.iinc 2 1, 3) := by decide +kernel
theorem dX6_stepAt_25 : decode cX6_stepAt 25 = .ok (.goto (-23), 3) := by decide +kernel
theorem dX6_stepAt_28 : decode cX6_stepAt 28 = .ok (.iconst (-1), 1) := by decide +kernel
theorem dX6_stepAt_29 : decode cX6_stepAt 29 = .ok (.ireturn, 1) := by decide +kernel
set_option maxRecDepth 20000 in
set_option maxHeartbeats 4000000 in
theorem tb_X6_stepAt_b2 {p : Program} {l : Launch} {e : Env} {s : State} {m : MethodId} {args : Array Value} {below : List Frame} {meth : Method} {c : Code} {G : GG} {Φ : Int32 → S9 → Prop} {K2 : Int32 → Int32 → S9 → Prop} (hE : Ev 40 G p s m args c cX6_stepAt RX6) (hml : c.maxLocals = 3) (hr : meth.sig.returnType = (some .int)) (hlk : meth.locks = false) (hK2 : ∀ (a1 : Int32) (a2 : Int32) (σ : S9) (H : Heap) (locs : List Loc) (ls : Array Slot), K2 a1 a2 σ → Pic cwl 40 G σ s.heap H locs → lv_has ls 3 [(0, .ref (gAd G 3)), (1, .int a1), (2, .int a2)] → W p l e rm_X6_stepAt s m args below meth c H locs 0 0 (QI cwl 40 G below args s Φ) (F0 m 2 ls [])) {a1 : Int32} {a2 : Int32} {σ : S9} {H : Heap} {locs : List Loc} {ls : Array Slot} (hq : bd_X6_stepAt_b2 K2 Φ a1 a2 σ) (hw : Pic cwl 40 G σ s.heap H locs) (hl : lv_has ls 3 [(0, .ref (gAd G 3)), (1, .int a1), (2, .int a2)]) : W p l e rm_X6_stepAt s m args below meth c H locs 0 0 (QI cwl 40 G below args s Φ) (F0 m 2 ls []) := by
  unfold bd_X6_stepAt_b2 at hq
  refine lv_iload_n hE.1 hE.2.1 dX6_stepAt_2 rfl (lv_at hl 2 rfl) ?_
  refine lv_aload_n hE.1 hE.2.1 dX6_stepAt_3 rfl (lv_at hl 0 rfl) ?_
  refine cgf_X6_46 hE hw dX6_stepAt_4 ?_
  refine lv_icmp_ge (tgt := 28) hE.1 hE.2.1 dX6_stepAt_7 (by decide) (fun c1 => ?_) (fun c1 => ?_)
  · have hq := hq.1 c1
    refine lv_iconst (v := (-1 : Int32)) hE.1 hE.2.1 dX6_stepAt_28 (by decide) ?_
    exact rtI hE hr hlk hw hq dX6_stepAt_29
  · have hq := hq.2 c1
    refine lv_aload_n hE.1 hE.2.1 dX6_stepAt_10 rfl (lv_at hl 0 rfl) ?_
    refine cgf_X6_15 hE hw dX6_stepAt_11 ?_
    refine lv_iload_n hE.1 hE.2.1 dX6_stepAt_14 rfl (lv_at hl 2 rfl) ?_
    obtain ⟨hi2, hq⟩ := hq
    refine cal_15 hE hw hi2 dX6_stepAt_15 ?_
    refine lv_iload_n hE.1 hE.2.1 dX6_stepAt_16 rfl (lv_at hl 1 rfl) ?_
    refine lv_icmp_ne (tgt := 22) hE.1 hE.2.1 dX6_stepAt_17 (by decide) (fun c3 => ?_) (fun c3 => ?_)
    · have hq := hq.2 c3
      obtain ⟨x4, ex4⟩ : ∃ y : Int32, y = a2 + 1 := ⟨_, rfl⟩
      have hq := hq x4 ex4
      refine lv_iinc (v := x4) (lv' := [(2, .int x4), (0, .ref (gAd G 3)), (1, .int a1)]) hE.1 hE.2.1 dX6_stepAt_22 hl (k := 2) rfl (by rw [ex4]; rfl) (by decide) rfl (fun ls hl => ?_)
      refine lv_goto (tgt := 2) hE.1 hE.2.1 dX6_stepAt_25 (by decide) ?_
      exact hK2 _ _ _ _ _ _ hq hw (lv_sub hl [1, 2, 0] rfl)
    · have hq := hq.1 c3
      refine lv_iload_n hE.1 hE.2.1 dX6_stepAt_20 rfl (lv_at hl 2 rfl) ?_
      exact rtI hE hr hlk hw hq dX6_stepAt_21
theorem tl_X6_stepAt_b2 {p : Program} {l : Launch} {e : Env} {s : State} {m : MethodId} {args : Array Value} {below : List Frame} {meth : Method} {c : Code} {G : GG} {Φ : Int32 → S9 → Prop}  (hE : Ev 40 G p s m args c cX6_stepAt RX6) (hml : c.maxLocals = 3) (hr : meth.sig.returnType = (some .int)) (hlk : meth.locks = false)  : ∀ (n : Nat) (a1 : Int32) (a2 : Int32) (σ : S9) (H : Heap) (locs : List Loc) (ls : Array Slot), lp_X6_stepAt_b2  Φ n a1 a2 σ → Pic cwl 40 G σ s.heap H locs → lv_has ls 3 [(0, .ref (gAd G 3)), (1, .int a1), (2, .int a2)] → W p l e rm_X6_stepAt s m args below meth c H locs 0 0 (QI cwl 40 G below args s Φ) (F0 m 2 ls []) := by
  intro n
  induction n with
  | zero => intro _ _ _ _ _ _ hq; exact hq.elim
  | succ n ih => intro _ _ _ _ _ _ hq hw hl; exact tb_X6_stepAt_b2 hE hml hr hlk  ih hq hw hl
set_option maxRecDepth 20000 in
set_option maxHeartbeats 4000000 in
theorem c_X6_stepAt {G : GG} (hJ : gJ 40 G) (l : Launch) (a1 : Int32) (σ : S9) (Φ : Int32 → S9 → Prop) (hq : wp_X6_stepAt a1 σ Φ) : CI cwl 40 G l yX6_stepAt cX6_stepAt 3 (some .int) rm_X6_stepAt [.ref (gAd G 3), .int a1] σ Φ := by
  refine CI.intro (by decide) (Nat.le_of_ble_eq_true rfl) hJ ?_
  intro p e s m args below meth c ls hE hml hr hlk hw hl
  have hl : lv_has ls 3 [(0, .ref (gAd G 3)), (1, .int a1)] := hl
  unfold wp_X6_stepAt at hq
  refine lv_iconst (v := (0 : Int32)) hE.1 hE.2.1 dX6_stepAt_0 (by decide) ?_
  refine lv_topi (fun x1 ex1 => ?_)
  have hq := hq x1 ex1
  refine lv_istore_n (lv' := [(2, .int x1), (0, .ref (gAd G 3)), (1, .int a1)]) hE.1 hE.2.1 dX6_stepAt_1 rfl hl (by decide) rfl (fun ls hl => ?_)
  obtain ⟨nn, hq⟩ := hq
  exact tl_X6_stepAt_b2 hE hml hr hlk  nn _ _ _ _ _ _ hq hw (lv_sub hl [1, 2, 0] rfl)
/-! QueueBench.signsIn(I)I -/
abbrev rm_X10_signsIn : Room := { frames := 0, cells := 0, slots := 0, locals := 0 }
def bd_X10_signsIn_b4 (K4 : Int32 → Int32 → Int32 → S9 → Prop) (Φ : Int32 → S9 → Prop) (a0 : Int32) (a1 : Int32) (a2 : Int32) (σ : S9) : Prop := ((32 : Int32) ≤ a2 → Φ a1 σ) ∧ (¬ (32 : Int32) ≤ a2 → (((ush a0 a2) &&& (255 : Int32)) = 0 → ∀ x3 : Int32, x3 = a2 + 8 → K4 a0 a1 x3 σ) ∧ (¬ ((ush a0 a2) &&& (255 : Int32)) = 0 → ∀ x4 : Int32, x4 = a1 + 1 → ∀ x5 : Int32, x5 = a2 + 8 → K4 a0 x4 x5 σ))
def lp_X10_signsIn_b4  (Φ : Int32 → S9 → Prop) : Nat → Int32 → Int32 → Int32 → S9 → Prop
  | 0 => fun _ _ _ _ => False
  | n + 1 => bd_X10_signsIn_b4  (lp_X10_signsIn_b4  Φ n) Φ
def wp_X10_signsIn (a0 : Int32) (σ : S9) (Φ : Int32 → S9 → Prop) : Prop := ∀ x1 : Int32, x1 = (0 : Int32) → ∀ x2 : Int32, x2 = (0 : Int32) → ∃ n : Nat, lp_X10_signsIn_b4  Φ n a0 x1 x2 σ
theorem dX10_signsIn_0 : decode cX10_signsIn 0 = .ok (.iconst 0, 1) := by decide +kernel
theorem dX10_signsIn_1 : decode cX10_signsIn 1 = .ok (.istore_n 1, 1) := by decide +kernel
theorem dX10_signsIn_2 : decode cX10_signsIn 2 = .ok (.iconst 0, 1) := by decide +kernel
theorem dX10_signsIn_3 : decode cX10_signsIn 3 = .ok (.istore_n 2, 1) := by decide +kernel
theorem dX10_signsIn_4 : decode cX10_signsIn 4 = .ok (.iload_n 2, 1) := by decide +kernel
theorem dX10_signsIn_5 : decode cX10_signsIn 5 = .ok (.bipush 32, 2) := by decide +kernel
theorem dX10_signsIn_7 : decode cX10_signsIn 7 = .ok (.if_icmp .ge 22, 3) := by decide +kernel
theorem dX10_signsIn_10 : decode cX10_signsIn 10 = .ok (.iload_n 0, 1) := by decide +kernel
theorem dX10_signsIn_11 : decode cX10_signsIn 11 = .ok (.iload_n 2, 1) := by decide +kernel
theorem dX10_signsIn_12 : decode cX10_signsIn 12 = .ok (.iushr, 1) := by decide +kernel
theorem dX10_signsIn_13 : decode cX10_signsIn 13 = .ok (.sipush 255, 3) := by decide +kernel
theorem dX10_signsIn_16 : decode cX10_signsIn 16 = .ok (.iand, 1) := by decide +kernel
theorem dX10_signsIn_17 : decode cX10_signsIn 17 = .ok (.ifCond .eq 6, 3) := by decide +kernel
theorem dX10_signsIn_20 : decode cX10_signsIn 20 = .ok (.iinc 1 1, 3) := by decide +kernel
theorem dX10_signsIn_23 : decode cX10_signsIn 23 = .ok (.iinc 2 8, 3) := by decide +kernel
theorem dX10_signsIn_26 : decode cX10_signsIn 26 = .ok (.goto (-22), 3) := by decide +kernel
theorem dX10_signsIn_29 : decode cX10_signsIn 29 = .ok (.iload_n 1, 1) := by decide +kernel
theorem dX10_signsIn_30 : decode cX10_signsIn 30 = .ok (.ireturn, 1) := by decide +kernel
set_option maxRecDepth 20000 in
set_option maxHeartbeats 4000000 in
theorem tb_X10_signsIn_b4 {p : Program} {l : Launch} {e : Env} {s : State} {m : MethodId} {args : Array Value} {below : List Frame} {meth : Method} {c : Code} {G : GG} {Φ : Int32 → S9 → Prop} {K4 : Int32 → Int32 → Int32 → S9 → Prop} (hE : Ev 40 G p s m args c cX10_signsIn RX10) (hml : c.maxLocals = 3) (hr : meth.sig.returnType = (some .int)) (hlk : meth.locks = false) (hK4 : ∀ (a0 : Int32) (a1 : Int32) (a2 : Int32) (σ : S9) (H : Heap) (locs : List Loc) (ls : Array Slot), K4 a0 a1 a2 σ → Pic cwl 40 G σ s.heap H locs → lv_has ls 3 [(0, .int a0), (1, .int a1), (2, .int a2)] → W p l e rm_X10_signsIn s m args below meth c H locs 0 0 (QI cwl 40 G below args s Φ) (F0 m 4 ls [])) {a0 : Int32} {a1 : Int32} {a2 : Int32} {σ : S9} {H : Heap} {locs : List Loc} {ls : Array Slot} (hq : bd_X10_signsIn_b4 K4 Φ a0 a1 a2 σ) (hw : Pic cwl 40 G σ s.heap H locs) (hl : lv_has ls 3 [(0, .int a0), (1, .int a1), (2, .int a2)]) : W p l e rm_X10_signsIn s m args below meth c H locs 0 0 (QI cwl 40 G below args s Φ) (F0 m 4 ls []) := by
  unfold bd_X10_signsIn_b4 at hq
  refine lv_iload_n hE.1 hE.2.1 dX10_signsIn_4 rfl (lv_at hl 2 rfl) ?_
  refine lv_bipush (v := (32 : Int32)) hE.1 hE.2.1 dX10_signsIn_5 (by decide) ?_
  refine lv_icmp_ge (tgt := 29) hE.1 hE.2.1 dX10_signsIn_7 (by decide) (fun c1 => ?_) (fun c1 => ?_)
  · have hq := hq.1 c1
    refine lv_iload_n hE.1 hE.2.1 dX10_signsIn_29 rfl (lv_at hl 1 rfl) ?_
    exact rtI hE hr hlk hw hq dX10_signsIn_30
  · have hq := hq.2 c1
    refine lv_iload_n hE.1 hE.2.1 dX10_signsIn_10 rfl (lv_at hl 0 rfl) ?_
    refine lv_iload_n hE.1 hE.2.1 dX10_signsIn_11 rfl (lv_at hl 2 rfl) ?_
    refine lv_iushr (v := (ush a0 a2)) hE.1 hE.2.1 dX10_signsIn_12 rfl ?_
    refine lv_sipush (v := (255 : Int32)) hE.1 hE.2.1 dX10_signsIn_13 (by decide) ?_
    refine lv_iand hE.1 hE.2.1 dX10_signsIn_16 ?_
    refine lv_if_eq (tgt := 23) hE.1 hE.2.1 dX10_signsIn_17 (by decide) (fun c2 => ?_) (fun c2 => ?_)
    · have hq := hq.1 c2
      obtain ⟨x3, ex3⟩ : ∃ y : Int32, y = a2 + 8 := ⟨_, rfl⟩
      have hq := hq x3 ex3
      refine lv_iinc (v := x3) (lv' := [(2, .int x3), (0, .int a0), (1, .int a1)]) hE.1 hE.2.1 dX10_signsIn_23 hl (k := 2) rfl (by rw [ex3]; rfl) (by decide) rfl (fun ls hl => ?_)
      refine lv_goto (tgt := 4) hE.1 hE.2.1 dX10_signsIn_26 (by decide) ?_
      exact hK4 _ _ _ _ _ _ _ hq hw (lv_sub hl [1, 2, 0] rfl)
    · have hq := hq.2 c2
      obtain ⟨x4, ex4⟩ : ∃ y : Int32, y = a1 + 1 := ⟨_, rfl⟩
      have hq := hq x4 ex4
      refine lv_iinc (v := x4) (lv' := [(1, .int x4), (0, .int a0), (2, .int a2)]) hE.1 hE.2.1 dX10_signsIn_20 hl (k := 1) rfl (by rw [ex4]; rfl) (by decide) rfl (fun ls hl => ?_)
      obtain ⟨x5, ex5⟩ : ∃ y : Int32, y = a2 + 8 := ⟨_, rfl⟩
      have hq := hq x5 ex5
      refine lv_iinc (v := x5) (lv' := [(2, .int x5), (1, .int x4), (0, .int a0)]) hE.1 hE.2.1 dX10_signsIn_23 hl (k := 2) rfl (by rw [ex5]; rfl) (by decide) rfl (fun ls hl => ?_)
      refine lv_goto (tgt := 4) hE.1 hE.2.1 dX10_signsIn_26 (by decide) ?_
      exact hK4 _ _ _ _ _ _ _ hq hw (lv_sub hl [2, 1, 0] rfl)
theorem tl_X10_signsIn_b4 {p : Program} {l : Launch} {e : Env} {s : State} {m : MethodId} {args : Array Value} {below : List Frame} {meth : Method} {c : Code} {G : GG} {Φ : Int32 → S9 → Prop}  (hE : Ev 40 G p s m args c cX10_signsIn RX10) (hml : c.maxLocals = 3) (hr : meth.sig.returnType = (some .int)) (hlk : meth.locks = false)  : ∀ (n : Nat) (a0 : Int32) (a1 : Int32) (a2 : Int32) (σ : S9) (H : Heap) (locs : List Loc) (ls : Array Slot), lp_X10_signsIn_b4  Φ n a0 a1 a2 σ → Pic cwl 40 G σ s.heap H locs → lv_has ls 3 [(0, .int a0), (1, .int a1), (2, .int a2)] → W p l e rm_X10_signsIn s m args below meth c H locs 0 0 (QI cwl 40 G below args s Φ) (F0 m 4 ls []) := by
  intro n
  induction n with
  | zero => intro _ _ _ _ _ _ _ hq; exact hq.elim
  | succ n ih => intro _ _ _ _ _ _ _ hq hw hl; exact tb_X10_signsIn_b4 hE hml hr hlk  ih hq hw hl
set_option maxRecDepth 20000 in
set_option maxHeartbeats 4000000 in
theorem c_X10_signsIn {G : GG} (hJ : gJ 40 G) (l : Launch) (a0 : Int32) (σ : S9) (Φ : Int32 → S9 → Prop) (hq : wp_X10_signsIn a0 σ Φ) : CI cwl 40 G l yX10_signsIn cX10_signsIn 3 (some .int) rm_X10_signsIn [.int a0] σ Φ := by
  refine CI.intro (by decide) (Nat.le_of_ble_eq_true rfl) hJ ?_
  intro p e s m args below meth c ls hE hml hr hlk hw hl
  have hl : lv_has ls 3 [(0, .int a0)] := hl
  unfold wp_X10_signsIn at hq
  refine lv_iconst (v := (0 : Int32)) hE.1 hE.2.1 dX10_signsIn_0 (by decide) ?_
  refine lv_topi (fun x1 ex1 => ?_)
  have hq := hq x1 ex1
  refine lv_istore_n (lv' := [(1, .int x1), (0, .int a0)]) hE.1 hE.2.1 dX10_signsIn_1 rfl hl (by decide) rfl (fun ls hl => ?_)
  refine lv_iconst (v := (0 : Int32)) hE.1 hE.2.1 dX10_signsIn_2 (by decide) ?_
  refine lv_topi (fun x2 ex2 => ?_)
  have hq := hq x2 ex2
  refine lv_istore_n (lv' := [(2, .int x2), (1, .int x1), (0, .int a0)]) hE.1 hE.2.1 dX10_signsIn_3 rfl hl (by decide) rfl (fun ls hl => ?_)
  obtain ⟨nn, hq⟩ := hq
  exact tl_X10_signsIn_b4 hE hml hr hlk  nn _ _ _ _ _ _ _ hq hw (lv_sub hl [2, 1, 0] rfl)
/-! QueueBench.isCell(I)Z -/
abbrev rm_X10_isCell : Room := { frames := 0, cells := 0, slots := 0, locals := 0 }
def wp_X10_isCell (a0 : Int32) (σ : S9) (Φ : Int32 → S9 → Prop) : Prop := (a0 < 0 → Φ (0 : Int32) σ) ∧ (¬ a0 < 0 → ((100 : Int32) ≤ a0 → Φ (0 : Int32) σ) ∧ (¬ (100 : Int32) ≤ a0 → Φ (1 : Int32) σ))
theorem dX10_isCell_0 : decode cX10_isCell 0 = .ok (.iload_n 0, 1) := by decide +kernel
theorem dX10_isCell_1 : decode cX10_isCell 1 = .ok (.ifCond .lt 13, 3) := by decide +kernel
theorem dX10_isCell_4 : decode cX10_isCell 4 = .ok (.iload_n 0, 1) := by decide +kernel
theorem dX10_isCell_5 : decode cX10_isCell 5 = .ok (.bipush 100, 2) := by decide +kernel
theorem dX10_isCell_7 : decode cX10_isCell 7 = .ok (.if_icmp .ge 7, 3) := by decide +kernel
theorem dX10_isCell_10 : decode cX10_isCell 10 = .ok (.iconst 1, 1) := by decide +kernel
theorem dX10_isCell_11 : decode cX10_isCell 11 = .ok (.goto 4, 3) := by decide +kernel
theorem dX10_isCell_14 : decode cX10_isCell 14 = .ok (.iconst 0, 1) := by decide +kernel
theorem dX10_isCell_15 : decode cX10_isCell 15 = .ok (.ireturn, 1) := by decide +kernel
set_option maxRecDepth 20000 in
set_option maxHeartbeats 4000000 in
theorem c_X10_isCell {G : GG} (hJ : gJ 40 G) (l : Launch) (a0 : Int32) (σ : S9) (Φ : Int32 → S9 → Prop) (hq : wp_X10_isCell a0 σ Φ) : CI cwl 40 G l yX10_isCell cX10_isCell 1 (some .boolean) rm_X10_isCell [.int a0] σ Φ := by
  refine CI.intro (by decide) (Nat.le_of_ble_eq_true rfl) hJ ?_
  intro p e s m args below meth c ls hE hml hr hlk hw hl
  have hl : lv_has ls 1 [(0, .int a0)] := hl
  unfold wp_X10_isCell at hq
  refine lv_iload_n hE.1 hE.2.1 dX10_isCell_0 rfl (lv_at hl 0 rfl) ?_
  refine lv_if_lt (tgt := 14) hE.1 hE.2.1 dX10_isCell_1 (by decide) (fun c1 => ?_) (fun c1 => ?_)
  · have hq := hq.1 c1
    refine lv_iconst (v := (0 : Int32)) hE.1 hE.2.1 dX10_isCell_14 (by decide) ?_
    exact rtZ hE hr hlk rfl hw hq dX10_isCell_15
  · have hq := hq.2 c1
    refine lv_iload_n hE.1 hE.2.1 dX10_isCell_4 rfl (lv_at hl 0 rfl) ?_
    refine lv_bipush (v := (100 : Int32)) hE.1 hE.2.1 dX10_isCell_5 (by decide) ?_
    refine lv_icmp_ge (tgt := 14) hE.1 hE.2.1 dX10_isCell_7 (by decide) (fun c2 => ?_) (fun c2 => ?_)
    · have hq := hq.1 c2
      refine lv_iconst (v := (0 : Int32)) hE.1 hE.2.1 dX10_isCell_14 (by decide) ?_
      exact rtZ hE hr hlk rfl hw hq dX10_isCell_15
    · have hq := hq.2 c2
      refine lv_iconst (v := (1 : Int32)) hE.1 hE.2.1 dX10_isCell_10 (by decide) ?_
      refine lv_goto (tgt := 15) hE.1 hE.2.1 dX10_isCell_11 (by decide) ?_
      exact rtZ hE hr hlk rfl hw hq dX10_isCell_15
/-! java/util/Arrays.fill([II)V -/
abbrev rm_J7_fill_53178_32 : Room := { frames := 0, cells := 0, slots := 0, locals := 0 }
def bd_J7_fill_53178_32_b5 (K5 : Int32 → Int32 → Int32 → S9 → Prop) (Φ : S9 → Prop) (a1 : Int32) (a2 : Int32) (a3 : Int32) (σ : S9) : Prop := (a3 ≤ a2 → Φ σ) ∧ (¬ a3 ≤ a2 → vp_in a2 26 ∧ ∀ σ1 : S9, σ1 = sA σ 20 (upd (σ.2.1 20) (a2).toNatClampNeg a1) → ∀ x3 : Int32, x3 = a2 + 1 → K5 a1 x3 a3 σ1)
def lp_J7_fill_53178_32_b5  (Φ : S9 → Prop) : Nat → Int32 → Int32 → Int32 → S9 → Prop
  | 0 => fun _ _ _ _ => False
  | n + 1 => bd_J7_fill_53178_32_b5  (lp_J7_fill_53178_32_b5  Φ n) Φ
def wp_J7_fill_53178_32 (a1 : Int32) (σ : S9) (Φ : S9 → Prop) : Prop := ∀ x1 : Int32, x1 = (0 : Int32) → ∀ x2 : Int32, x2 = (26 : Int32) → ∃ n : Nat, lp_J7_fill_53178_32_b5  Φ n a1 x1 x2 σ
theorem dJ7_fill_53178_0 : decode cJ7_fill_53178 0 = .ok (.iconst 0, 1) := by decide +kernel
theorem dJ7_fill_53178_1 : decode cJ7_fill_53178 1 = .ok (.istore_n 2, 1) := by decide +kernel
theorem dJ7_fill_53178_2 : decode cJ7_fill_53178 2 = .ok (.aload_n 0, 1) := by decide +kernel
theorem dJ7_fill_53178_3 : decode cJ7_fill_53178 3 = .ok (.arraylength, 1) := by decide +kernel
theorem dJ7_fill_53178_4 : decode cJ7_fill_53178 4 = .ok (.istore_n 3, 1) := by decide +kernel
theorem dJ7_fill_53178_5 : decode cJ7_fill_53178 5 = .ok (.iload_n 2, 1) := by decide +kernel
theorem dJ7_fill_53178_6 : decode cJ7_fill_53178 6 = .ok (.iload_n 3, 1) := by decide +kernel
theorem dJ7_fill_53178_7 : decode cJ7_fill_53178 7 = .ok (.if_icmp .ge 13, 3) := by decide +kernel
theorem dJ7_fill_53178_10 : decode cJ7_fill_53178 10 = .ok (.aload_n 0, 1) := by decide +kernel
theorem dJ7_fill_53178_11 : decode cJ7_fill_53178 11 = .ok (.iload_n 2, 1) := by decide +kernel
theorem dJ7_fill_53178_12 : decode cJ7_fill_53178 12 = .ok (.iload_n 1, 1) := by decide +kernel
theorem dJ7_fill_53178_13 : decode cJ7_fill_53178 13 = .ok (.iastore, 1) := by decide +kernel
theorem dJ7_fill_53178_14 : decode cJ7_fill_53178 14 = .ok (.iinc 2 1, 3) := by decide +kernel
theorem dJ7_fill_53178_17 : decode cJ7_fill_53178 17 = .ok (.goto (-12), 3) := by decide +kernel
theorem dJ7_fill_53178_20 : decode cJ7_fill_53178 20 = .ok (.return_, 1) := by decide +kernel
set_option maxRecDepth 20000 in
set_option maxHeartbeats 4000000 in
theorem tb_J7_fill_53178_32_b5 {p : Program} {l : Launch} {e : Env} {s : State} {m : MethodId} {args : Array Value} {below : List Frame} {meth : Method} {c : Code} {G : GG} {Φ : S9 → Prop} {K5 : Int32 → Int32 → Int32 → S9 → Prop} (hE : Ev 40 G p s m args c cJ7_fill_53178 RJ7) (hml : c.maxLocals = 4) (hr : meth.sig.returnType = none) (hlk : meth.locks = false) (hK5 : ∀ (a1 : Int32) (a2 : Int32) (a3 : Int32) (σ : S9) (H : Heap) (locs : List Loc) (ls : Array Slot), K5 a1 a2 a3 σ → Pic cwl 40 G σ s.heap H locs → lv_has ls 4 [(0, .ref (gAd G 32)), (1, .int a1), (2, .int a2), (3, .int a3)] → W p l e rm_J7_fill_53178_32 s m args below meth c H locs 0 0 (QV cwl 40 G below args s Φ) (F0 m 5 ls [])) {a1 : Int32} {a2 : Int32} {a3 : Int32} {σ : S9} {H : Heap} {locs : List Loc} {ls : Array Slot} (hq : bd_J7_fill_53178_32_b5 K5 Φ a1 a2 a3 σ) (hw : Pic cwl 40 G σ s.heap H locs) (hl : lv_has ls 4 [(0, .ref (gAd G 32)), (1, .int a1), (2, .int a2), (3, .int a3)]) : W p l e rm_J7_fill_53178_32 s m args below meth c H locs 0 0 (QV cwl 40 G below args s Φ) (F0 m 5 ls []) := by
  unfold bd_J7_fill_53178_32_b5 at hq
  refine lv_iload_n hE.1 hE.2.1 dJ7_fill_53178_5 rfl (lv_at hl 2 rfl) ?_
  refine lv_iload_n hE.1 hE.2.1 dJ7_fill_53178_6 rfl (lv_at hl 3 rfl) ?_
  refine lv_icmp_ge (tgt := 20) hE.1 hE.2.1 dJ7_fill_53178_7 (by decide) (fun c1 => ?_) (fun c1 => ?_)
  · have hq := hq.1 c1
    exact rtV hE hr hlk hw hq dJ7_fill_53178_20
  · have hq := hq.2 c1
    refine lv_aload_n hE.1 hE.2.1 dJ7_fill_53178_10 rfl (lv_at hl 0 rfl) ?_
    refine lv_iload_n hE.1 hE.2.1 dJ7_fill_53178_11 rfl (lv_at hl 2 rfl) ?_
    refine lv_iload_n hE.1 hE.2.1 dJ7_fill_53178_12 rfl (lv_at hl 1 rfl) ?_
    obtain ⟨hi2, hq⟩ := hq
    refine cas_32 hE hw hi2 dJ7_fill_53178_13 (fun σ1 eσ1 H locs hw => ?_)
    have hq := hq σ1 eσ1
    obtain ⟨x3, ex3⟩ : ∃ y : Int32, y = a2 + 1 := ⟨_, rfl⟩
    have hq := hq x3 ex3
    refine lv_iinc (v := x3) (lv' := [(2, .int x3), (0, .ref (gAd G 32)), (1, .int a1), (3, .int a3)]) hE.1 hE.2.1 dJ7_fill_53178_14 hl (k := 2) rfl (by rw [ex3]; rfl) (by decide) rfl (fun ls hl => ?_)
    refine lv_goto (tgt := 5) hE.1 hE.2.1 dJ7_fill_53178_17 (by decide) ?_
    exact hK5 _ _ _ _ _ _ _ hq hw (lv_sub hl [1, 2, 0, 3] rfl)
theorem tl_J7_fill_53178_32_b5 {p : Program} {l : Launch} {e : Env} {s : State} {m : MethodId} {args : Array Value} {below : List Frame} {meth : Method} {c : Code} {G : GG} {Φ : S9 → Prop}  (hE : Ev 40 G p s m args c cJ7_fill_53178 RJ7) (hml : c.maxLocals = 4) (hr : meth.sig.returnType = none) (hlk : meth.locks = false)  : ∀ (n : Nat) (a1 : Int32) (a2 : Int32) (a3 : Int32) (σ : S9) (H : Heap) (locs : List Loc) (ls : Array Slot), lp_J7_fill_53178_32_b5  Φ n a1 a2 a3 σ → Pic cwl 40 G σ s.heap H locs → lv_has ls 4 [(0, .ref (gAd G 32)), (1, .int a1), (2, .int a2), (3, .int a3)] → W p l e rm_J7_fill_53178_32 s m args below meth c H locs 0 0 (QV cwl 40 G below args s Φ) (F0 m 5 ls []) := by
  intro n
  induction n with
  | zero => intro _ _ _ _ _ _ _ hq; exact hq.elim
  | succ n ih => intro _ _ _ _ _ _ _ hq hw hl; exact tb_J7_fill_53178_32_b5 hE hml hr hlk  ih hq hw hl
set_option maxRecDepth 20000 in
set_option maxHeartbeats 4000000 in
theorem c_J7_fill_53178_32 {G : GG} (hJ : gJ 40 G) (l : Launch) (a1 : Int32) (σ : S9) (Φ : S9 → Prop) (hq : wp_J7_fill_53178_32 a1 σ Φ) : CV cwl 40 G l yJ7_fill_53178 cJ7_fill_53178 4 rm_J7_fill_53178_32 [.ref (gAd G 32), .int a1] σ Φ := by
  refine CV.intro (by decide) (Nat.le_of_ble_eq_true rfl) hJ ?_
  intro p e s m args below meth c ls hE hml hr hlk hw hl
  have hl : lv_has ls 4 [(0, .ref (gAd G 32)), (1, .int a1)] := hl
  unfold wp_J7_fill_53178_32 at hq
  refine lv_iconst (v := (0 : Int32)) hE.1 hE.2.1 dJ7_fill_53178_0 (by decide) ?_
  refine lv_topi (fun x1 ex1 => ?_)
  have hq := hq x1 ex1
  refine lv_istore_n (lv' := [(2, .int x1), (0, .ref (gAd G 32)), (1, .int a1)]) hE.1 hE.2.1 dJ7_fill_53178_1 rfl hl (by decide) rfl (fun ls hl => ?_)
  refine lv_aload_n hE.1 hE.2.1 dJ7_fill_53178_2 rfl (lv_at hl 1 rfl) ?_
  refine cln_32 hE hw dJ7_fill_53178_3 ?_
  refine lv_topi (fun x2 ex2 => ?_)
  have hq := hq x2 ex2
  refine lv_istore_n (lv' := [(3, .int x2), (2, .int x1), (0, .ref (gAd G 32)), (1, .int a1)]) hE.1 hE.2.1 dJ7_fill_53178_4 rfl hl (by decide) rfl (fun ls hl => ?_)
  obtain ⟨nn, hq⟩ := hq
  exact tl_J7_fill_53178_32_b5 hE hml hr hlk  nn _ _ _ _ _ _ _ hq hw (lv_sub hl [2, 3, 1, 0] rfl)
/-! java/util/Arrays.fill([II)V -/
abbrev rm_J7_fill_53178_33 : Room := { frames := 0, cells := 0, slots := 0, locals := 0 }
def bd_J7_fill_53178_33_b5 (K5 : Int32 → Int32 → Int32 → S9 → Prop) (Φ : S9 → Prop) (a1 : Int32) (a2 : Int32) (a3 : Int32) (σ : S9) : Prop := (a3 ≤ a2 → Φ σ) ∧ (¬ a3 ≤ a2 → vp_in a2 100 ∧ ∀ σ1 : S9, σ1 = sA σ 21 (upd (σ.2.1 21) (a2).toNatClampNeg a1) → ∀ x3 : Int32, x3 = a2 + 1 → K5 a1 x3 a3 σ1)
def lp_J7_fill_53178_33_b5  (Φ : S9 → Prop) : Nat → Int32 → Int32 → Int32 → S9 → Prop
  | 0 => fun _ _ _ _ => False
  | n + 1 => bd_J7_fill_53178_33_b5  (lp_J7_fill_53178_33_b5  Φ n) Φ
def wp_J7_fill_53178_33 (a1 : Int32) (σ : S9) (Φ : S9 → Prop) : Prop := ∀ x1 : Int32, x1 = (0 : Int32) → ∀ x2 : Int32, x2 = (100 : Int32) → ∃ n : Nat, lp_J7_fill_53178_33_b5  Φ n a1 x1 x2 σ
set_option maxRecDepth 20000 in
set_option maxHeartbeats 4000000 in
theorem tb_J7_fill_53178_33_b5 {p : Program} {l : Launch} {e : Env} {s : State} {m : MethodId} {args : Array Value} {below : List Frame} {meth : Method} {c : Code} {G : GG} {Φ : S9 → Prop} {K5 : Int32 → Int32 → Int32 → S9 → Prop} (hE : Ev 40 G p s m args c cJ7_fill_53178 RJ7) (hml : c.maxLocals = 4) (hr : meth.sig.returnType = none) (hlk : meth.locks = false) (hK5 : ∀ (a1 : Int32) (a2 : Int32) (a3 : Int32) (σ : S9) (H : Heap) (locs : List Loc) (ls : Array Slot), K5 a1 a2 a3 σ → Pic cwl 40 G σ s.heap H locs → lv_has ls 4 [(0, .ref (gAd G 33)), (1, .int a1), (2, .int a2), (3, .int a3)] → W p l e rm_J7_fill_53178_33 s m args below meth c H locs 0 0 (QV cwl 40 G below args s Φ) (F0 m 5 ls [])) {a1 : Int32} {a2 : Int32} {a3 : Int32} {σ : S9} {H : Heap} {locs : List Loc} {ls : Array Slot} (hq : bd_J7_fill_53178_33_b5 K5 Φ a1 a2 a3 σ) (hw : Pic cwl 40 G σ s.heap H locs) (hl : lv_has ls 4 [(0, .ref (gAd G 33)), (1, .int a1), (2, .int a2), (3, .int a3)]) : W p l e rm_J7_fill_53178_33 s m args below meth c H locs 0 0 (QV cwl 40 G below args s Φ) (F0 m 5 ls []) := by
  unfold bd_J7_fill_53178_33_b5 at hq
  refine lv_iload_n hE.1 hE.2.1 dJ7_fill_53178_5 rfl (lv_at hl 2 rfl) ?_
  refine lv_iload_n hE.1 hE.2.1 dJ7_fill_53178_6 rfl (lv_at hl 3 rfl) ?_
  refine lv_icmp_ge (tgt := 20) hE.1 hE.2.1 dJ7_fill_53178_7 (by decide) (fun c1 => ?_) (fun c1 => ?_)
  · have hq := hq.1 c1
    exact rtV hE hr hlk hw hq dJ7_fill_53178_20
  · have hq := hq.2 c1
    refine lv_aload_n hE.1 hE.2.1 dJ7_fill_53178_10 rfl (lv_at hl 0 rfl) ?_
    refine lv_iload_n hE.1 hE.2.1 dJ7_fill_53178_11 rfl (lv_at hl 2 rfl) ?_
    refine lv_iload_n hE.1 hE.2.1 dJ7_fill_53178_12 rfl (lv_at hl 1 rfl) ?_
    obtain ⟨hi2, hq⟩ := hq
    refine cas_33 hE hw hi2 dJ7_fill_53178_13 (fun σ1 eσ1 H locs hw => ?_)
    have hq := hq σ1 eσ1
    obtain ⟨x3, ex3⟩ : ∃ y : Int32, y = a2 + 1 := ⟨_, rfl⟩
    have hq := hq x3 ex3
    refine lv_iinc (v := x3) (lv' := [(2, .int x3), (0, .ref (gAd G 33)), (1, .int a1), (3, .int a3)]) hE.1 hE.2.1 dJ7_fill_53178_14 hl (k := 2) rfl (by rw [ex3]; rfl) (by decide) rfl (fun ls hl => ?_)
    refine lv_goto (tgt := 5) hE.1 hE.2.1 dJ7_fill_53178_17 (by decide) ?_
    exact hK5 _ _ _ _ _ _ _ hq hw (lv_sub hl [1, 2, 0, 3] rfl)
theorem tl_J7_fill_53178_33_b5 {p : Program} {l : Launch} {e : Env} {s : State} {m : MethodId} {args : Array Value} {below : List Frame} {meth : Method} {c : Code} {G : GG} {Φ : S9 → Prop}  (hE : Ev 40 G p s m args c cJ7_fill_53178 RJ7) (hml : c.maxLocals = 4) (hr : meth.sig.returnType = none) (hlk : meth.locks = false)  : ∀ (n : Nat) (a1 : Int32) (a2 : Int32) (a3 : Int32) (σ : S9) (H : Heap) (locs : List Loc) (ls : Array Slot), lp_J7_fill_53178_33_b5  Φ n a1 a2 a3 σ → Pic cwl 40 G σ s.heap H locs → lv_has ls 4 [(0, .ref (gAd G 33)), (1, .int a1), (2, .int a2), (3, .int a3)] → W p l e rm_J7_fill_53178_33 s m args below meth c H locs 0 0 (QV cwl 40 G below args s Φ) (F0 m 5 ls []) := by
  intro n
  induction n with
  | zero => intro _ _ _ _ _ _ _ hq; exact hq.elim
  | succ n ih => intro _ _ _ _ _ _ _ hq hw hl; exact tb_J7_fill_53178_33_b5 hE hml hr hlk  ih hq hw hl
set_option maxRecDepth 20000 in
set_option maxHeartbeats 4000000 in
theorem c_J7_fill_53178_33 {G : GG} (hJ : gJ 40 G) (l : Launch) (a1 : Int32) (σ : S9) (Φ : S9 → Prop) (hq : wp_J7_fill_53178_33 a1 σ Φ) : CV cwl 40 G l yJ7_fill_53178 cJ7_fill_53178 4 rm_J7_fill_53178_33 [.ref (gAd G 33), .int a1] σ Φ := by
  refine CV.intro (by decide) (Nat.le_of_ble_eq_true rfl) hJ ?_
  intro p e s m args below meth c ls hE hml hr hlk hw hl
  have hl : lv_has ls 4 [(0, .ref (gAd G 33)), (1, .int a1)] := hl
  unfold wp_J7_fill_53178_33 at hq
  refine lv_iconst (v := (0 : Int32)) hE.1 hE.2.1 dJ7_fill_53178_0 (by decide) ?_
  refine lv_topi (fun x1 ex1 => ?_)
  have hq := hq x1 ex1
  refine lv_istore_n (lv' := [(2, .int x1), (0, .ref (gAd G 33)), (1, .int a1)]) hE.1 hE.2.1 dJ7_fill_53178_1 rfl hl (by decide) rfl (fun ls hl => ?_)
  refine lv_aload_n hE.1 hE.2.1 dJ7_fill_53178_2 rfl (lv_at hl 1 rfl) ?_
  refine cln_33 hE hw dJ7_fill_53178_3 ?_
  refine lv_topi (fun x2 ex2 => ?_)
  have hq := hq x2 ex2
  refine lv_istore_n (lv' := [(3, .int x2), (2, .int x1), (0, .ref (gAd G 33)), (1, .int a1)]) hE.1 hE.2.1 dJ7_fill_53178_4 rfl hl (by decide) rfl (fun ls hl => ?_)
  obtain ⟨nn, hq⟩ := hq
  exact tl_J7_fill_53178_33_b5 hE hml hr hlk  nn _ _ _ _ _ _ _ hq hw (lv_sub hl [2, 3, 1, 0] rfl)
/-! QueueBench$Machine.rewind()V -/
abbrev rm_X3_rewind : Room := { frames := 1, cells := 0, slots := 0, locals := 23 }
def wp_X3_rewind  (σ : S9) (Φ : S9 → Prop) : Prop := wp_J7_fill_53178_32 (0 : Int32) σ (fun σ1 => wp_J7_fill_53178_33 (0 : Int32) σ1 (fun σ2 => ∀ σ3 : S9, σ3 = sF σ2 17 (0 : Int32) → ∀ σ4 : S9, σ4 = sF σ3 18 (0 : Int32) → vp_in (26 : Int32) 27 ∧ ∀ σ5 : S9, σ5 = sF σ4 19 (σ4.2.1 12 ((26 : Int32)).toNatClampNeg) → ∀ σ6 : S9, σ6 = sF σ5 20 (0 : Int32) → ∀ σ7 : S9, σ7 = sF σ6 21 (0 : Int32) → ∀ σ8 : S9, σ8 = sF σ7 22 (0 : Int32) → Φ σ8))
theorem dX3_rewind_0 : decode cX3_rewind 0 = .ok (.aload_n 0, 1) := by decide +kernel
theorem dX3_rewind_1 : decode cX3_rewind 1 = .ok (.getfield 9, 3) := by decide +kernel
theorem dX3_rewind_4 : decode cX3_rewind 4 = .ok (.iconst 0, 1) := by decide +kernel
theorem dX3_rewind_5 : decode cX3_rewind 5 = .ok (.invokestatic 40, 3) := by decide +kernel
theorem dX3_rewind_8 : decode cX3_rewind 8 = .ok (.aload_n 0, 1) := by decide +kernel
theorem dX3_rewind_9 : decode cX3_rewind 9 = .ok (.getfield 15, 3) := by decide +kernel
theorem dX3_rewind_12 : decode cX3_rewind 12 = .ok (.iconst 0, 1) := by decide +kernel
theorem dX3_rewind_13 : decode cX3_rewind 13 = .ok (.invokestatic 40, 3) := by decide +kernel
theorem dX3_rewind_16 : decode cX3_rewind 16 = .ok (.aload_n 0, 1) := by decide +kernel
theorem dX3_rewind_17 : decode cX3_rewind 17 = .ok (.getfield 36, 3) := by decide +kernel
theorem dX3_rewind_20 : decode cX3_rewind 20 = .ok (.iconst 0, 1) := by decide +kernel
theorem dX3_rewind_21 : decode cX3_rewind 21 = .ok (.putfield 46, 3) := by decide +kernel
theorem dX3_rewind_24 : decode cX3_rewind 24 = .ok (.aload_n 0, 1) := by decide +kernel
theorem dX3_rewind_25 : decode cX3_rewind 25 = .ok (.iconst 0, 1) := by decide +kernel
theorem dX3_rewind_26 : decode cX3_rewind 26 = .ok (.putfield 52, 3) := by decide +kernel
theorem dX3_rewind_29 : decode cX3_rewind 29 = .ok (.aload_n 0, 1) := by decide +kernel
theorem dX3_rewind_30 : decode cX3_rewind 30 = .ok (.aload_n 0, 1) := by decide +kernel
theorem dX3_rewind_31 : decode cX3_rewind 31 = .ok (.getfield 28, 3) := by decide +kernel
theorem dX3_rewind_34 : decode cX3_rewind 34 = .ok (.getfield 55, 3) := by decide +kernel
theorem dX3_rewind_37 : decode cX3_rewind 37 = .ok (.bipush 26, 2) := by decide +kernel
theorem dX3_rewind_39 : decode cX3_rewind 39 = .ok (.iaload, 1) := by decide +kernel
theorem dX3_rewind_40 : decode cX3_rewind 40 = .ok (.putfield 60, 3) := by decide +kernel
theorem dX3_rewind_43 : decode cX3_rewind 43 = .ok (.aload_n 0, 1) := by decide +kernel
theorem dX3_rewind_44 : decode cX3_rewind 44 = .ok (.iconst 0, 1) := by decide +kernel
theorem dX3_rewind_45 : decode cX3_rewind 45 = .ok (.putfield 63, 3) := by decide +kernel
theorem dX3_rewind_48 : decode cX3_rewind 48 = .ok (.aload_n 0, 1) := by decide +kernel
theorem dX3_rewind_49 : decode cX3_rewind 49 = .ok (.iconst 0, 1) := by decide +kernel
theorem dX3_rewind_50 : decode cX3_rewind 50 = .ok (.putfield 66, 3) := by decide +kernel
theorem dX3_rewind_53 : decode cX3_rewind 53 = .ok (.aload_n 0, 1) := by decide +kernel
theorem dX3_rewind_54 : decode cX3_rewind 54 = .ok (.iconst 0, 1) := by decide +kernel
theorem dX3_rewind_55 : decode cX3_rewind 55 = .ok (.putfield 69, 3) := by decide +kernel
theorem dX3_rewind_58 : decode cX3_rewind 58 = .ok (.return_, 1) := by decide +kernel
set_option maxRecDepth 20000 in
set_option maxHeartbeats 4000000 in
theorem c_X3_rewind {G : GG} (hJ : gJ 40 G) (l : Launch)  (σ : S9) (Φ : S9 → Prop) (hq : wp_X3_rewind  σ Φ) : CV cwl 40 G l yX3_rewind cX3_rewind 1 rm_X3_rewind [.ref (gAd G 8)] σ Φ := by
  refine CV.intro (by decide) (Nat.le_of_ble_eq_true rfl) hJ ?_
  intro p e s m args below meth c ls hE hml hr hlk hw hl
  have hl : lv_has ls 1 [(0, .ref (gAd G 8))] := hl
  unfold wp_X3_rewind at hq
  refine lv_aload_n hE.1 hE.2.1 dX3_rewind_0 rfl (lv_at hl 0 rfl) ?_
  refine cgf_X3_9 hE hw dX3_rewind_1 ?_
  refine lv_iconst (v := (0 : Int32)) hE.1 hE.2.1 dX3_rewind_4 (by decide) ?_
  refine clSv (rest := []) (As := [.ref (gAd G 32), .int (0 : Int32)]) hE hml hl.1 hw (c_J7_fill_53178_32 hE.2.2.2.2.2 l _ _ _ hq) cu9 cu11 cu12 cu10 (k := 2) (by decide +kernel) (by decide) rfl rfl (Nat.le_of_ble_eq_true rfl) dX3_rewind_5 (by decide) (fun σ1 hq H locs hw => ?_)
  refine lv_aload_n hE.1 hE.2.1 dX3_rewind_8 rfl (lv_at hl 0 rfl) ?_
  refine cgf_X3_15 hE hw dX3_rewind_9 ?_
  refine lv_iconst (v := (0 : Int32)) hE.1 hE.2.1 dX3_rewind_12 (by decide) ?_
  refine clSv (rest := []) (As := [.ref (gAd G 33), .int (0 : Int32)]) hE hml hl.1 hw (c_J7_fill_53178_33 hE.2.2.2.2.2 l _ _ _ hq) cu9 cu11 cu12 cu10 (k := 2) (by decide +kernel) (by decide) rfl rfl (Nat.le_of_ble_eq_true rfl) dX3_rewind_13 (by decide) (fun σ2 hq H locs hw => ?_)
  refine lv_aload_n hE.1 hE.2.1 dX3_rewind_16 rfl (lv_at hl 0 rfl) ?_
  refine cgf_X3_36 hE hw dX3_rewind_17 ?_
  refine lv_iconst (v := (0 : Int32)) hE.1 hE.2.1 dX3_rewind_20 (by decide) ?_
  refine cpf_X3_46 hE hw dX3_rewind_21 (fun σ3 eσ3 H locs hw => ?_)
  have hq := hq σ3 eσ3
  refine lv_aload_n hE.1 hE.2.1 dX3_rewind_24 rfl (lv_at hl 0 rfl) ?_
  refine lv_iconst (v := (0 : Int32)) hE.1 hE.2.1 dX3_rewind_25 (by decide) ?_
  refine cpf_X3_52 hE hw dX3_rewind_26 (fun σ4 eσ4 H locs hw => ?_)
  have hq := hq σ4 eσ4
  refine lv_aload_n hE.1 hE.2.1 dX3_rewind_29 rfl (lv_at hl 0 rfl) ?_
  refine lv_aload_n hE.1 hE.2.1 dX3_rewind_30 rfl (lv_at hl 0 rfl) ?_
  refine cgf_X3_28 hE hw dX3_rewind_31 ?_
  refine cgf_X3_55 hE hw dX3_rewind_34 ?_
  refine lv_bipush (v := (26 : Int32)) hE.1 hE.2.1 dX3_rewind_37 (by decide) ?_
  obtain ⟨hi1, hq⟩ := hq
  refine cal_24 hE hw hi1 dX3_rewind_39 ?_
  refine cpf_X3_60 hE hw dX3_rewind_40 (fun σ5 eσ5 H locs hw => ?_)
  have hq := hq σ5 eσ5
  refine lv_aload_n hE.1 hE.2.1 dX3_rewind_43 rfl (lv_at hl 0 rfl) ?_
  refine lv_iconst (v := (0 : Int32)) hE.1 hE.2.1 dX3_rewind_44 (by decide) ?_
  refine cpf_X3_63 hE hw dX3_rewind_45 (fun σ6 eσ6 H locs hw => ?_)
  have hq := hq σ6 eσ6
  refine lv_aload_n hE.1 hE.2.1 dX3_rewind_48 rfl (lv_at hl 0 rfl) ?_
  refine lv_iconst (v := (0 : Int32)) hE.1 hE.2.1 dX3_rewind_49 (by decide) ?_
  refine cpf_X3_66 hE hw dX3_rewind_50 (fun σ7 eσ7 H locs hw => ?_)
  have hq := hq σ7 eσ7
  refine lv_aload_n hE.1 hE.2.1 dX3_rewind_53 rfl (lv_at hl 0 rfl) ?_
  refine lv_iconst (v := (0 : Int32)) hE.1 hE.2.1 dX3_rewind_54 (by decide) ?_
  refine cpf_X3_69 hE hw dX3_rewind_55 (fun σ8 eσ8 H locs hw => ?_)
  have hq := hq σ8 eσ8
  exact rtV hE hr hlk hw hq dX3_rewind_58
/-! QueueBench$Machine.condition()I -/
abbrev rm_X3_condition : Room := { frames := 0, cells := 0, slots := 0, locals := 0 }
def wp_X3_condition  (σ : S9) (Φ : Int32 → S9 → Prop) : Prop := ((σ.1 20) = 0 → ((σ.1 19) = (-1 : Int32) → Φ (1 : Int32) σ) ∧ (¬ (σ.1 19) = (-1 : Int32) → Φ (σ.1 20) σ)) ∧ (¬ (σ.1 20) = 0 → Φ (σ.1 20) σ)
theorem dX3_condition_0 : decode cX3_condition 0 = .ok (.aload_n 0, 1) := by decide +kernel
theorem dX3_condition_1 : decode cX3_condition 1 = .ok (.getfield 63, 3) := by decide +kernel
theorem dX3_condition_4 : decode cX3_condition 4 = .ok (.ifCond .ne 15, 3) := by decide +kernel
theorem dX3_condition_7 : decode cX3_condition 7 = .ok (.aload_n 0, 1) := by decide +kernel
theorem dX3_condition_8 : decode cX3_condition 8 = .ok (.getfield 60, 3) := by decide +kernel
theorem dX3_condition_11 : decode cX3_condition 11 = .ok (.iconst (-1), 1) := by decide +kernel
theorem dX3_condition_12 : decode cX3_condition 12 = .ok (.if_icmp .ne 7, 3) := by decide +kernel
theorem dX3_condition_15 : decode cX3_condition 15 = .ok (.iconst 1, 1) := by decide +kernel
theorem dX3_condition_16 : decode cX3_condition 16 = .ok (.goto 7, 3) := by decide +kernel
theorem dX3_condition_19 : decode cX3_condition 19 = .ok (.aload_n 0, 1) := by decide +kernel
theorem dX3_condition_20 : decode cX3_condition 20 = .ok (.getfield 63, 3) := by decide +kernel
theorem dX3_condition_23 : decode cX3_condition 23 = .ok (.ireturn, 1) := by decide +kernel
set_option maxRecDepth 20000 in
set_option maxHeartbeats 4000000 in
theorem c_X3_condition {G : GG} (hJ : gJ 40 G) (l : Launch)  (σ : S9) (Φ : Int32 → S9 → Prop) (hq : wp_X3_condition  σ Φ) : CI cwl 40 G l yX3_condition cX3_condition 1 (some .int) rm_X3_condition [.ref (gAd G 8)] σ Φ := by
  refine CI.intro (by decide) (Nat.le_of_ble_eq_true rfl) hJ ?_
  intro p e s m args below meth c ls hE hml hr hlk hw hl
  have hl : lv_has ls 1 [(0, .ref (gAd G 8))] := hl
  unfold wp_X3_condition at hq
  refine lv_aload_n hE.1 hE.2.1 dX3_condition_0 rfl (lv_at hl 0 rfl) ?_
  refine cgf_X3_63 hE hw dX3_condition_1 ?_
  refine lv_if_ne (tgt := 19) hE.1 hE.2.1 dX3_condition_4 (by decide) (fun c1 => ?_) (fun c1 => ?_)
  · have hq := hq.2 c1
    refine lv_aload_n hE.1 hE.2.1 dX3_condition_19 rfl (lv_at hl 0 rfl) ?_
    refine cgf_X3_63 hE hw dX3_condition_20 ?_
    exact rtI hE hr hlk hw hq dX3_condition_23
  · have hq := hq.1 c1
    refine lv_aload_n hE.1 hE.2.1 dX3_condition_7 rfl (lv_at hl 0 rfl) ?_
    refine cgf_X3_60 hE hw dX3_condition_8 ?_
    refine lv_iconst (v := (-1 : Int32)) hE.1 hE.2.1 dX3_condition_11 (by decide) ?_
    refine lv_icmp_ne (tgt := 19) hE.1 hE.2.1 dX3_condition_12 (by decide) (fun c2 => ?_) (fun c2 => ?_)
    · have hq := hq.2 c2
      refine lv_aload_n hE.1 hE.2.1 dX3_condition_19 rfl (lv_at hl 0 rfl) ?_
      refine cgf_X3_63 hE hw dX3_condition_20 ?_
      exact rtI hE hr hlk hw hq dX3_condition_23
    · have hq := hq.1 c2
      refine lv_iconst (v := (1 : Int32)) hE.1 hE.2.1 dX3_condition_15 (by decide) ?_
      refine lv_goto (tgt := 23) hE.1 hE.2.1 dX3_condition_16 (by decide) ?_
      exact rtI hE hr hlk hw hq dX3_condition_23
/-! QueueBench$Machine.place()I -/
abbrev rm_X3_place : Room := { frames := 0, cells := 0, slots := 0, locals := 0 }
def wp_X3_place  (σ : S9) (Φ : Int32 → S9 → Prop) : Prop := ((σ.1 19) = (-1 : Int32) → Φ (-1 : Int32) σ) ∧ (¬ (σ.1 19) = (-1 : Int32) → vp_in (σ.1 19) 300 ∧ Φ (σ.2.1 3 ((σ.1 19)).toNatClampNeg) σ)
theorem dX3_place_0 : decode cX3_place 0 = .ok (.aload_n 0, 1) := by decide +kernel
theorem dX3_place_1 : decode cX3_place 1 = .ok (.getfield 60, 3) := by decide +kernel
theorem dX3_place_4 : decode cX3_place 4 = .ok (.iconst (-1), 1) := by decide +kernel
theorem dX3_place_5 : decode cX3_place 5 = .ok (.if_icmp .ne 7, 3) := by decide +kernel
theorem dX3_place_8 : decode cX3_place 8 = .ok (.iconst (-1), 1) := by decide +kernel
theorem dX3_place_9 : decode cX3_place 9 = .ok (.goto 15, 3) := by decide +kernel
theorem dX3_place_12 : decode cX3_place 12 = .ok (.aload_n 0, 1) := by decide +kernel
theorem dX3_place_13 : decode cX3_place 13 = .ok (.getfield 28, 3) := by decide +kernel
theorem dX3_place_16 : decode cX3_place 16 = .ok (.getfield 72, 3) := by decide +kernel
theorem dX3_place_19 : decode cX3_place 19 = .ok (.aload_n 0, 1) := by decide +kernel
theorem dX3_place_20 : decode cX3_place 20 = .ok (.getfield 60, 3) := by decide +kernel
theorem dX3_place_23 : decode cX3_place 23 = .ok (.iaload, 1) := by decide +kernel
theorem dX3_place_24 : decode cX3_place 24 = .ok (.ireturn, 1) := by decide +kernel
set_option maxRecDepth 20000 in
set_option maxHeartbeats 4000000 in
theorem c_X3_place {G : GG} (hJ : gJ 40 G) (l : Launch)  (σ : S9) (Φ : Int32 → S9 → Prop) (hq : wp_X3_place  σ Φ) : CI cwl 40 G l yX3_place cX3_place 1 (some .int) rm_X3_place [.ref (gAd G 8)] σ Φ := by
  refine CI.intro (by decide) (Nat.le_of_ble_eq_true rfl) hJ ?_
  intro p e s m args below meth c ls hE hml hr hlk hw hl
  have hl : lv_has ls 1 [(0, .ref (gAd G 8))] := hl
  unfold wp_X3_place at hq
  refine lv_aload_n hE.1 hE.2.1 dX3_place_0 rfl (lv_at hl 0 rfl) ?_
  refine cgf_X3_60 hE hw dX3_place_1 ?_
  refine lv_iconst (v := (-1 : Int32)) hE.1 hE.2.1 dX3_place_4 (by decide) ?_
  refine lv_icmp_ne (tgt := 12) hE.1 hE.2.1 dX3_place_5 (by decide) (fun c1 => ?_) (fun c1 => ?_)
  · have hq := hq.2 c1
    refine lv_aload_n hE.1 hE.2.1 dX3_place_12 rfl (lv_at hl 0 rfl) ?_
    refine cgf_X3_28 hE hw dX3_place_13 ?_
    refine cgf_X3_72 hE hw dX3_place_16 ?_
    refine lv_aload_n hE.1 hE.2.1 dX3_place_19 rfl (lv_at hl 0 rfl) ?_
    refine cgf_X3_60 hE hw dX3_place_20 ?_
    obtain ⟨hi2, hq⟩ := hq
    refine cal_15 hE hw hi2 dX3_place_23 ?_
    exact rtI hE hr hlk hw hq dX3_place_24
  · have hq := hq.1 c1
    refine lv_iconst (v := (-1 : Int32)) hE.1 hE.2.1 dX3_place_8 (by decide) ?_
    refine lv_goto (tgt := 24) hE.1 hE.2.1 dX3_place_9 (by decide) ?_
    exact rtI hE hr hlk hw hq dX3_place_24
/-! QueueBench$Program.codeStart(I)I -/
abbrev rm_X6_codeStart : Room := { frames := 0, cells := 0, slots := 0, locals := 0 }
def wp_X6_codeStart (a1 : Int32) (σ : S9) (Φ : Int32 → S9 → Prop) : Prop := (a1 = 0 → Φ (0 : Int32) σ) ∧ (¬ a1 = 0 → vp_in (a1 - (1 : Int32)) 300 ∧ Φ (σ.2.1 9 ((a1 - (1 : Int32))).toNatClampNeg) σ)
theorem dX6_codeStart_0 : decode cX6_codeStart 0 = .ok (.iload_n 1, 1) := by decide +kernel
theorem dX6_codeStart_1 : decode cX6_codeStart 1 = .ok (.ifCond .ne 7, 3) := by decide +kernel
theorem dX6_codeStart_4 : decode cX6_codeStart 4 = .ok (.iconst 0, 1) := by decide +kernel
theorem dX6_codeStart_5 : decode cX6_codeStart 5 = .ok (.goto 11, 3) := by decide +kernel
theorem dX6_codeStart_8 : decode cX6_codeStart 8 = .ok (.aload_n 0, 1) := by decide +kernel
theorem dX6_codeStart_9 : decode cX6_codeStart 9 = .ok (.getfield 34, 3) := by decide +kernel
theorem dX6_codeStart_12 : decode cX6_codeStart 12 = .ok (.iload_n 1, 1) := by decide +kernel
theorem dX6_codeStart_13 : decode cX6_codeStart 13 = .ok (.iconst 1, 1) := by decide +kernel
theorem dX6_codeStart_14 : decode cX6_codeStart 14 = .ok (.isub, 1) := by decide +kernel
theorem dX6_codeStart_15 : decode cX6_codeStart 15 = .ok (.iaload, 1) := by decide +kernel
theorem dX6_codeStart_16 : decode cX6_codeStart 16 = .ok (.ireturn, 1) := by decide +kernel
set_option maxRecDepth 20000 in
set_option maxHeartbeats 4000000 in
theorem c_X6_codeStart {G : GG} (hJ : gJ 40 G) (l : Launch) (a1 : Int32) (σ : S9) (Φ : Int32 → S9 → Prop) (hq : wp_X6_codeStart a1 σ Φ) : CI cwl 40 G l yX6_codeStart cX6_codeStart 2 (some .int) rm_X6_codeStart [.ref (gAd G 3), .int a1] σ Φ := by
  refine CI.intro (by decide) (Nat.le_of_ble_eq_true rfl) hJ ?_
  intro p e s m args below meth c ls hE hml hr hlk hw hl
  have hl : lv_has ls 2 [(0, .ref (gAd G 3)), (1, .int a1)] := hl
  unfold wp_X6_codeStart at hq
  refine lv_iload_n hE.1 hE.2.1 dX6_codeStart_0 rfl (lv_at hl 1 rfl) ?_
  refine lv_if_ne (tgt := 8) hE.1 hE.2.1 dX6_codeStart_1 (by decide) (fun c1 => ?_) (fun c1 => ?_)
  · have hq := hq.2 c1
    refine lv_aload_n hE.1 hE.2.1 dX6_codeStart_8 rfl (lv_at hl 0 rfl) ?_
    refine cgf_X6_34 hE hw dX6_codeStart_9 ?_
    refine lv_iload_n hE.1 hE.2.1 dX6_codeStart_12 rfl (lv_at hl 1 rfl) ?_
    refine lv_iconst (v := (1 : Int32)) hE.1 hE.2.1 dX6_codeStart_13 (by decide) ?_
    refine lv_isub hE.1 hE.2.1 dX6_codeStart_14 ?_
    obtain ⟨hi2, hq⟩ := hq
    refine cal_21 hE hw hi2 dX6_codeStart_15 ?_
    exact rtI hE hr hlk hw hq dX6_codeStart_16
  · have hq := hq.1 c1
    refine lv_iconst (v := (0 : Int32)) hE.1 hE.2.1 dX6_codeStart_4 (by decide) ?_
    refine lv_goto (tgt := 16) hE.1 hE.2.1 dX6_codeStart_5 (by decide) ?_
    exact rtI hE hr hlk hw hq dX6_codeStart_16
/-! QueueBench$Operands.push(I)V -/
abbrev rm_X4_push_9 : Room := { frames := 0, cells := 0, slots := 0, locals := 0 }
def wp_X4_push_9 (a1 : Int32) (σ : S9) (Φ : S9 → Prop) : Prop := ((60 : Int32) ≤ (σ.1 24) → Φ σ) ∧ (¬ (60 : Int32) ≤ (σ.1 24) → vp_in (σ.1 24) 60 ∧ ∀ σ1 : S9, σ1 = sA σ 23 (upd (σ.2.1 23) ((σ.1 24)).toNatClampNeg a1) → ∀ σ2 : S9, σ2 = sF σ1 24 ((σ1.1 24) + (1 : Int32)) → Φ σ2)
theorem dX4_push_0 : decode cX4_push 0 = .ok (.aload_n 0, 1) := by decide +kernel
theorem dX4_push_1 : decode cX4_push 1 = .ok (.getfield 15, 3) := by decide +kernel
theorem dX4_push_4 : decode cX4_push 4 = .ok (.bipush 60, 2) := by decide +kernel
theorem dX4_push_6 : decode cX4_push 6 = .ok (.if_icmp .ge 23, 3) := by decide +kernel
theorem dX4_push_9 : decode cX4_push 9 = .ok (.aload_n 0, 1) := by decide +kernel
theorem dX4_push_10 : decode cX4_push 10 = .ok (.getfield 9, 3) := by decide +kernel
theorem dX4_push_13 : decode cX4_push 13 = .ok (.aload_n 0, 1) := by decide +kernel
theorem dX4_push_14 : decode cX4_push 14 = .ok (.getfield 15, 3) := by decide +kernel
theorem dX4_push_17 : decode cX4_push 17 = .ok (.iload_n 1, 1) := by decide +kernel
theorem dX4_push_18 : decode cX4_push 18 = .ok (.iastore, 1) := by decide +kernel
theorem dX4_push_19 : decode cX4_push 19 = .ok (.aload_n 0, 1) := by decide +kernel
theorem dX4_push_20 : decode cX4_push 20 = .ok (.dup, 1) := by decide +kernel
theorem dX4_push_21 : decode cX4_push 21 = .ok (.getfield 15, 3) := by decide +kernel
theorem dX4_push_24 : decode cX4_push 24 = .ok (.iconst 1, 1) := by decide +kernel
theorem dX4_push_25 : decode cX4_push 25 = .ok (.iadd, 1) := by decide +kernel
theorem dX4_push_26 : decode cX4_push 26 = .ok (.putfield 15, 3) := by decide +kernel
theorem dX4_push_29 : decode cX4_push 29 = .ok (.return_, 1) := by decide +kernel
set_option maxRecDepth 20000 in
set_option maxHeartbeats 4000000 in
theorem c_X4_push_9 {G : GG} (hJ : gJ 40 G) (l : Launch) (a1 : Int32) (σ : S9) (Φ : S9 → Prop) (hq : wp_X4_push_9 a1 σ Φ) : CV cwl 40 G l yX4_push cX4_push 2 rm_X4_push_9 [.ref (gAd G 9), .int a1] σ Φ := by
  refine CV.intro (by decide) (Nat.le_of_ble_eq_true rfl) hJ ?_
  intro p e s m args below meth c ls hE hml hr hlk hw hl
  have hl : lv_has ls 2 [(0, .ref (gAd G 9)), (1, .int a1)] := hl
  unfold wp_X4_push_9 at hq
  refine lv_aload_n hE.1 hE.2.1 dX4_push_0 rfl (lv_at hl 0 rfl) ?_
  refine cgf_X4_15_9 hE hw dX4_push_1 ?_
  refine lv_bipush (v := (60 : Int32)) hE.1 hE.2.1 dX4_push_4 (by decide) ?_
  refine lv_icmp_ge (tgt := 29) hE.1 hE.2.1 dX4_push_6 (by decide) (fun c1 => ?_) (fun c1 => ?_)
  · have hq := hq.1 c1
    exact rtV hE hr hlk hw hq dX4_push_29
  · have hq := hq.2 c1
    refine lv_aload_n hE.1 hE.2.1 dX4_push_9 rfl (lv_at hl 0 rfl) ?_
    refine cgf_X4_9_9 hE hw dX4_push_10 ?_
    refine lv_aload_n hE.1 hE.2.1 dX4_push_13 rfl (lv_at hl 0 rfl) ?_
    refine cgf_X4_15_9 hE hw dX4_push_14 ?_
    refine lv_iload_n hE.1 hE.2.1 dX4_push_17 rfl (lv_at hl 1 rfl) ?_
    obtain ⟨hi2, hq⟩ := hq
    refine cas_35 hE hw hi2 dX4_push_18 (fun σ1 eσ1 H locs hw => ?_)
    have hq := hq σ1 eσ1
    refine lv_aload_n hE.1 hE.2.1 dX4_push_19 rfl (lv_at hl 0 rfl) ?_
    refine lv_dup hE.1 hE.2.1 dX4_push_20 rfl ?_
    refine cgf_X4_15_9 hE hw dX4_push_21 ?_
    refine lv_iconst (v := (1 : Int32)) hE.1 hE.2.1 dX4_push_24 (by decide) ?_
    refine lv_iadd hE.1 hE.2.1 dX4_push_25 ?_
    refine cpf_X4_15_9 hE hw dX4_push_26 (fun σ2 eσ2 H locs hw => ?_)
    have hq := hq σ2 eσ2
    exact rtV hE hr hlk hw hq dX4_push_29
/-! QueueBench$Machine.read()V -/
abbrev rm_X3_read : Room := { frames := 1, cells := 0, slots := 0, locals := 21 }
def wp_X3_read  (σ : S9) (Φ : S9 → Prop) : Prop := ∀ x1 : Int32, x1 = ((σ.1 22) + (σ.1 23)) → ((σ.1 3) ≤ x1 → ∀ σ1 : S9, σ1 = sF σ 20 (4 : Int32) → Φ σ1) ∧ (¬ (σ.1 3) ≤ x1 → vp_in x1 300 ∧ wp_X4_push_9 (σ.2.1 1 (x1).toNatClampNeg) σ (fun σ2 => ∀ σ3 : S9, σ3 = sF σ2 23 ((σ2.1 23) + (1 : Int32)) → Φ σ3))
theorem dX3_read_0 : decode cX3_read 0 = .ok (.aload_n 0, 1) := by decide +kernel
theorem dX3_read_1 : decode cX3_read 1 = .ok (.getfield 69, 3) := by decide +kernel
theorem dX3_read_4 : decode cX3_read 4 = .ok (.aload_n 0, 1) := by decide +kernel
theorem dX3_read_5 : decode cX3_read 5 = .ok (.getfield 92, 3) := by decide +kernel
theorem dX3_read_8 : decode cX3_read 8 = .ok (.iadd, 1) := by decide +kernel
theorem dX3_read_9 : decode cX3_read 9 = .ok (.istore_n 1, 1) := by decide +kernel
theorem dX3_read_10 : decode cX3_read 10 = .ok (.iload_n 1, 1) := by decide +kernel
theorem dX3_read_11 : decode cX3_read 11 = .ok (.aload_n 0, 1) := by decide +kernel
theorem dX3_read_12 : decode cX3_read 12 = .ok (.getfield 32, 3) := by decide +kernel
theorem dX3_read_15 : decode cX3_read 15 = .ok (.getfield 137, 3) := by decide +kernel
theorem dX3_read_18 : decode cX3_read 18 = .ok (.if_icmp .ge 32, 3) := by decide +kernel
theorem dX3_read_21 : decode cX3_read 21 = .ok (.aload_n 0, 1) := by decide +kernel
theorem dX3_read_22 : decode cX3_read 22 = .ok (.getfield 24, 3) := by decide +kernel
theorem dX3_read_25 : decode cX3_read 25 = .ok (.aload_n 0, 1) := by decide +kernel
theorem dX3_read_26 : decode cX3_read 26 = .ok (.getfield 32, 3) := by decide +kernel
theorem dX3_read_29 : decode cX3_read 29 = .ok (.getfield 142, 3) := by decide +kernel
theorem dX3_read_32 : decode cX3_read 32 = .ok (.iload_n 1, 1) := by decide +kernel
theorem dX3_read_33 : decode cX3_read 33 = .ok (.iaload, 1) := by decide +kernel
theorem dX3_read_34 : decode cX3_read 34 = .ok (.invokevirtual 120, 3) := by decide +kernel
theorem dX3_read_37 : decode cX3_read 37 = .ok (.aload_n 0, 1) := by decide +kernel
theorem dX3_read_38 : decode cX3_read 38 = .ok (.dup, 1) := by decide +kernel
theorem dX3_read_39 : decode cX3_read 39 = .ok (.getfield 92, 3) := by decide +kernel
theorem dX3_read_42 : decode cX3_read 42 = .ok (.iconst 1, 1) := by decide +kernel
theorem dX3_read_43 : decode cX3_read 43 = .ok (.iadd, 1) := by decide +kernel
theorem dX3_read_44 : decode cX3_read 44 = .ok (.putfield 92, 3) := by decide +kernel
theorem dX3_read_47 : decode cX3_read 47 = .ok (.goto 8, 3) := by decide +kernel
theorem dX3_read_50 : decode cX3_read 50 = .ok (.aload_n 0, 1) := by decide +kernel
theorem dX3_read_51 : decode cX3_read 51 = .ok (.iconst 4, 1) := by decide +kernel
theorem dX3_read_52 : decode cX3_read 52 = .ok (.putfield 63, 3) := by decide +kernel
theorem dX3_read_55 : decode cX3_read 55 = .ok (.return_, 1) := by decide +kernel
set_option maxRecDepth 20000 in
set_option maxHeartbeats 4000000 in
theorem c_X3_read {G : GG} (hJ : gJ 40 G) (l : Launch)  (σ : S9) (Φ : S9 → Prop) (hq : wp_X3_read  σ Φ) : CV cwl 40 G l yX3_read cX3_read 2 rm_X3_read [.ref (gAd G 8)] σ Φ := by
  refine CV.intro (by decide) (Nat.le_of_ble_eq_true rfl) hJ ?_
  intro p e s m args below meth c ls hE hml hr hlk hw hl
  have hl : lv_has ls 2 [(0, .ref (gAd G 8))] := hl
  unfold wp_X3_read at hq
  refine lv_aload_n hE.1 hE.2.1 dX3_read_0 rfl (lv_at hl 0 rfl) ?_
  refine cgf_X3_69 hE hw dX3_read_1 ?_
  refine lv_aload_n hE.1 hE.2.1 dX3_read_4 rfl (lv_at hl 0 rfl) ?_
  refine cgf_X3_92 hE hw dX3_read_5 ?_
  refine lv_iadd hE.1 hE.2.1 dX3_read_8 ?_
  refine lv_topi (fun x1 ex1 => ?_)
  have hq := hq x1 ex1
  refine lv_istore_n (lv' := [(1, .int x1), (0, .ref (gAd G 8))]) hE.1 hE.2.1 dX3_read_9 rfl hl (by decide) rfl (fun ls hl => ?_)
  refine lv_iload_n hE.1 hE.2.1 dX3_read_10 rfl (lv_at hl 0 rfl) ?_
  refine lv_aload_n hE.1 hE.2.1 dX3_read_11 rfl (lv_at hl 1 rfl) ?_
  refine cgf_X3_32 hE hw dX3_read_12 ?_
  refine cgf_X3_137 hE hw dX3_read_15 ?_
  refine lv_icmp_ge (tgt := 50) hE.1 hE.2.1 dX3_read_18 (by decide) (fun c2 => ?_) (fun c2 => ?_)
  · have hq := hq.1 c2
    refine lv_aload_n hE.1 hE.2.1 dX3_read_50 rfl (lv_at hl 1 rfl) ?_
    refine lv_iconst (v := (4 : Int32)) hE.1 hE.2.1 dX3_read_51 (by decide) ?_
    refine cpf_X3_63 hE hw dX3_read_52 (fun σ1 eσ1 H locs hw => ?_)
    have hq := hq σ1 eσ1
    exact rtV hE hr hlk hw hq dX3_read_55
  · have hq := hq.2 c2
    refine lv_aload_n hE.1 hE.2.1 dX3_read_21 rfl (lv_at hl 1 rfl) ?_
    refine cgf_X3_24 hE hw dX3_read_22 ?_
    refine lv_aload_n hE.1 hE.2.1 dX3_read_25 rfl (lv_at hl 1 rfl) ?_
    refine cgf_X3_32 hE hw dX3_read_26 ?_
    refine cgf_X3_142 hE hw dX3_read_29 ?_
    refine lv_iload_n hE.1 hE.2.1 dX3_read_32 rfl (lv_at hl 0 rfl) ?_
    obtain ⟨hi3, hq⟩ := hq
    refine cal_13 hE hw hi3 dX3_read_33 ?_
    refine clVv (rest := []) (As := [.int (σ.2.1 1 (x1).toNatClampNeg)]) hE hml hl.1 hw (c_X4_push_9 hE.2.2.2.2.2 l _ _ _ hq) cu32 cu34 cu35 cu36 cu33 rfl (k := 1) (by decide +kernel) (by decide) (ci := 4) rfl (q0 := 9) rfl rfl rfl (Nat.le_of_ble_eq_true rfl) dX3_read_34 (by decide) (fun σ2 hq H locs hw => ?_)
    refine lv_aload_n hE.1 hE.2.1 dX3_read_37 rfl (lv_at hl 1 rfl) ?_
    refine lv_dup hE.1 hE.2.1 dX3_read_38 rfl ?_
    refine cgf_X3_92 hE hw dX3_read_39 ?_
    refine lv_iconst (v := (1 : Int32)) hE.1 hE.2.1 dX3_read_42 (by decide) ?_
    refine lv_iadd hE.1 hE.2.1 dX3_read_43 ?_
    refine cpf_X3_92 hE hw dX3_read_44 (fun σ3 eσ3 H locs hw => ?_)
    have hq := hq σ3 eσ3
    refine lv_goto (tgt := 55) hE.1 hE.2.1 dX3_read_47 (by decide) ?_
    exact rtV hE hr hlk hw hq dX3_read_55
/-! QueueBench$Operands.pop()I -/
abbrev rm_X4_pop_9 : Room := { frames := 0, cells := 0, slots := 0, locals := 0 }
def wp_X4_pop_9  (σ : S9) (Φ : Int32 → S9 → Prop) : Prop := ((σ.1 24) = 0 → Φ (0 : Int32) σ) ∧ (¬ (σ.1 24) = 0 → ∀ σ1 : S9, σ1 = sF σ 24 ((σ.1 24) - (1 : Int32)) → vp_in (σ1.1 24) 60 ∧ Φ (σ1.2.1 23 ((σ1.1 24)).toNatClampNeg) σ1)
theorem dX4_pop_0 : decode cX4_pop 0 = .ok (.aload_n 0, 1) := by decide +kernel
theorem dX4_pop_1 : decode cX4_pop 1 = .ok (.getfield 15, 3) := by decide +kernel
theorem dX4_pop_4 : decode cX4_pop 4 = .ok (.ifCond .ne 5, 3) := by decide +kernel
theorem dX4_pop_7 : decode cX4_pop 7 = .ok (.iconst 0, 1) := by decide +kernel
theorem dX4_pop_8 : decode cX4_pop 8 = .ok (.ireturn, 1) := by decide +kernel
theorem dX4_pop_9 : decode cX4_pop 9 = .ok (.aload_n 0, 1) := by decide +kernel
theorem dX4_pop_10 : decode cX4_pop 10 = .ok (.dup, 1) := by decide +kernel
theorem dX4_pop_11 : decode cX4_pop 11 = .ok (.getfield 15, 3) := by decide +kernel
theorem dX4_pop_14 : decode cX4_pop 14 = .ok (.iconst 1, 1) := by decide +kernel
theorem dX4_pop_15 : decode cX4_pop 15 = .ok (.isub, 1) := by decide +kernel
theorem dX4_pop_16 : decode cX4_pop 16 = .ok (.putfield 15, 3) := by decide +kernel
theorem dX4_pop_19 : decode cX4_pop 19 = .ok (.aload_n 0, 1) := by decide +kernel
theorem dX4_pop_20 : decode cX4_pop 20 = .ok (.getfield 9, 3) := by decide +kernel
theorem dX4_pop_23 : decode cX4_pop 23 = .ok (.aload_n 0, 1) := by decide +kernel
theorem dX4_pop_24 : decode cX4_pop 24 = .ok (.getfield 15, 3) := by decide +kernel
theorem dX4_pop_27 : decode cX4_pop 27 = .ok (.iaload, 1) := by decide +kernel
theorem dX4_pop_28 : decode cX4_pop 28 = .ok (.ireturn, 1) := by decide +kernel
set_option maxRecDepth 20000 in
set_option maxHeartbeats 4000000 in
theorem c_X4_pop_9 {G : GG} (hJ : gJ 40 G) (l : Launch)  (σ : S9) (Φ : Int32 → S9 → Prop) (hq : wp_X4_pop_9  σ Φ) : CI cwl 40 G l yX4_pop cX4_pop 1 (some .int) rm_X4_pop_9 [.ref (gAd G 9)] σ Φ := by
  refine CI.intro (by decide) (Nat.le_of_ble_eq_true rfl) hJ ?_
  intro p e s m args below meth c ls hE hml hr hlk hw hl
  have hl : lv_has ls 1 [(0, .ref (gAd G 9))] := hl
  unfold wp_X4_pop_9 at hq
  refine lv_aload_n hE.1 hE.2.1 dX4_pop_0 rfl (lv_at hl 0 rfl) ?_
  refine cgf_X4_15_9 hE hw dX4_pop_1 ?_
  refine lv_if_ne (tgt := 9) hE.1 hE.2.1 dX4_pop_4 (by decide) (fun c1 => ?_) (fun c1 => ?_)
  · have hq := hq.2 c1
    refine lv_aload_n hE.1 hE.2.1 dX4_pop_9 rfl (lv_at hl 0 rfl) ?_
    refine lv_dup hE.1 hE.2.1 dX4_pop_10 rfl ?_
    refine cgf_X4_15_9 hE hw dX4_pop_11 ?_
    refine lv_iconst (v := (1 : Int32)) hE.1 hE.2.1 dX4_pop_14 (by decide) ?_
    refine lv_isub hE.1 hE.2.1 dX4_pop_15 ?_
    refine cpf_X4_15_9 hE hw dX4_pop_16 (fun σ1 eσ1 H locs hw => ?_)
    have hq := hq σ1 eσ1
    refine lv_aload_n hE.1 hE.2.1 dX4_pop_19 rfl (lv_at hl 0 rfl) ?_
    refine cgf_X4_9_9 hE hw dX4_pop_20 ?_
    refine lv_aload_n hE.1 hE.2.1 dX4_pop_23 rfl (lv_at hl 0 rfl) ?_
    refine cgf_X4_15_9 hE hw dX4_pop_24 ?_
    obtain ⟨hi2, hq⟩ := hq
    refine cal_35 hE hw hi2 dX4_pop_27 ?_
    exact rtI hE hr hlk hw hq dX4_pop_28
  · have hq := hq.1 c1
    refine lv_iconst (v := (0 : Int32)) hE.1 hE.2.1 dX4_pop_7 (by decide) ?_
    exact rtI hE hr hlk hw hq dX4_pop_8
/-! QueueBench$Machine.lookAtCell(I)V -/
abbrev rm_X3_lookAtCell : Room := { frames := 1, cells := 0, slots := 0, locals := 20 }
def wp_X3_lookAtCell (a1 : Int32) (σ : S9) (Φ : S9 → Prop) : Prop := wp_X10_isCell a1 σ (fun r1 σ1 => (r1 = 0 → ∀ σ2 : S9, σ2 = sF σ1 20 (3 : Int32) → Φ σ2) ∧ (¬ r1 = 0 → Φ σ1))
theorem dX3_lookAtCell_0 : decode cX3_lookAtCell 0 = .ok (.iload_n 1, 1) := by decide +kernel
theorem dX3_lookAtCell_1 : decode cX3_lookAtCell 1 = .ok (.invokestatic 143, 3) := by decide +kernel
theorem dX3_lookAtCell_4 : decode cX3_lookAtCell 4 = .ok (.ifCond .ne 8, 3) := by decide +kernel
theorem dX3_lookAtCell_7 : decode cX3_lookAtCell 7 = .ok (.aload_n 0, 1) := by decide +kernel
theorem dX3_lookAtCell_8 : decode cX3_lookAtCell 8 = .ok (.iconst 3, 1) := by decide +kernel
theorem dX3_lookAtCell_9 : decode cX3_lookAtCell 9 = .ok (.putfield 63, 3) := by decide +kernel
theorem dX3_lookAtCell_12 : decode cX3_lookAtCell 12 = .ok (.return_, 1) := by decide +kernel
set_option maxRecDepth 20000 in
set_option maxHeartbeats 4000000 in
theorem c_X3_lookAtCell {G : GG} (hJ : gJ 40 G) (l : Launch) (a1 : Int32) (σ : S9) (Φ : S9 → Prop) (hq : wp_X3_lookAtCell a1 σ Φ) : CV cwl 40 G l yX3_lookAtCell cX3_lookAtCell 2 rm_X3_lookAtCell [.ref (gAd G 8), .int a1] σ Φ := by
  refine CV.intro (by decide) (Nat.le_of_ble_eq_true rfl) hJ ?_
  intro p e s m args below meth c ls hE hml hr hlk hw hl
  have hl : lv_has ls 2 [(0, .ref (gAd G 8)), (1, .int a1)] := hl
  unfold wp_X3_lookAtCell at hq
  refine lv_iload_n hE.1 hE.2.1 dX3_lookAtCell_0 rfl (lv_at hl 1 rfl) ?_
  refine clNi (rest := []) (As := [.int a1]) hE hml hl.1 hw (c_X10_isCell hE.2.2.2.2.2 l _ _ _ hq) cu46 (List.mem_of_getElem? (i := 50) rfl) cu48 cu47 (k := 1) (by decide +kernel) (by decide) rfl rfl (Nat.le_of_ble_eq_true rfl) dX3_lookAtCell_1 (by decide) (fun r1 σ1 hq H locs hw => ?_)
  refine lv_if_ne (tgt := 12) hE.1 hE.2.1 dX3_lookAtCell_4 (by decide) (fun c2 => ?_) (fun c2 => ?_)
  · have hq := hq.2 c2
    exact rtV hE hr hlk hw hq dX3_lookAtCell_12
  · have hq := hq.1 c2
    refine lv_aload_n hE.1 hE.2.1 dX3_lookAtCell_7 rfl (lv_at hl 0 rfl) ?_
    refine lv_iconst (v := (3 : Int32)) hE.1 hE.2.1 dX3_lookAtCell_8 (by decide) ?_
    refine cpf_X3_63 hE hw dX3_lookAtCell_9 (fun σ2 eσ2 H locs hw => ?_)
    have hq := hq σ2 eσ2
    exact rtV hE hr hlk hw hq dX3_lookAtCell_12
/-! QueueBench$Machine.fetch()V -/
abbrev rm_X3_fetch : Room := { frames := 2, cells := 0, slots := 0, locals := 41 }
def wp_X3_fetch  (σ : S9) (Φ : S9 → Prop) : Prop := wp_X4_pop_9 σ (fun r1 σ1 => wp_X3_lookAtCell r1 σ1 (fun σ2 => ((σ2.1 20) = 0 → vp_in r1 100 ∧ wp_X4_push_9 (σ2.2.1 21 (r1).toNatClampNeg) σ2 (fun σ3 => Φ σ3)) ∧ (¬ (σ2.1 20) = 0 → Φ σ2)))
theorem dX3_fetch_0 : decode cX3_fetch 0 = .ok (.aload_n 0, 1) := by decide +kernel
theorem dX3_fetch_1 : decode cX3_fetch 1 = .ok (.getfield 24, 3) := by decide +kernel
theorem dX3_fetch_4 : decode cX3_fetch 4 = .ok (.invokevirtual 129, 3) := by decide +kernel
theorem dX3_fetch_7 : decode cX3_fetch 7 = .ok (.istore_n 1, 1) := by decide +kernel
theorem dX3_fetch_8 : decode cX3_fetch 8 = .ok (.aload_n 0, 1) := by decide +kernel
theorem dX3_fetch_9 : decode cX3_fetch 9 = .ok (.iload_n 1, 1) := by decide +kernel
theorem dX3_fetch_10 : decode cX3_fetch 10 = .ok (.invokevirtual 89, 3) := by decide +kernel
theorem dX3_fetch_13 : decode cX3_fetch 13 = .ok (.aload_n 0, 1) := by decide +kernel
theorem dX3_fetch_14 : decode cX3_fetch 14 = .ok (.getfield 63, 3) := by decide +kernel
theorem dX3_fetch_17 : decode cX3_fetch 17 = .ok (.ifCond .ne 16, 3) := by decide +kernel
theorem dX3_fetch_20 : decode cX3_fetch 20 = .ok (.aload_n 0, 1) := by decide +kernel
theorem dX3_fetch_21 : decode cX3_fetch 21 = .ok (.getfield 24, 3) := by decide +kernel
theorem dX3_fetch_24 : decode cX3_fetch 24 = .ok (.aload_n 0, 1) := by decide +kernel
theorem dX3_fetch_25 : decode cX3_fetch 25 = .ok (.getfield 15, 3) := by decide +kernel
theorem dX3_fetch_28 : decode cX3_fetch 28 = .ok (.iload_n 1, 1) := by decide +kernel
theorem dX3_fetch_29 : decode cX3_fetch 29 = .ok (.iaload, 1) := by decide +kernel
theorem dX3_fetch_30 : decode cX3_fetch 30 = .ok (.invokevirtual 120, 3) := by decide +kernel
theorem dX3_fetch_33 : decode cX3_fetch 33 = .ok (.return_, 1) := by decide +kernel
set_option maxRecDepth 20000 in
set_option maxHeartbeats 4000000 in
theorem c_X3_fetch {G : GG} (hJ : gJ 40 G) (l : Launch)  (σ : S9) (Φ : S9 → Prop) (hq : wp_X3_fetch  σ Φ) : CV cwl 40 G l yX3_fetch cX3_fetch 2 rm_X3_fetch [.ref (gAd G 8)] σ Φ := by
  refine CV.intro (by decide) (Nat.le_of_ble_eq_true rfl) hJ ?_
  intro p e s m args below meth c ls hE hml hr hlk hw hl
  have hl : lv_has ls 2 [(0, .ref (gAd G 8))] := hl
  unfold wp_X3_fetch at hq
  refine lv_aload_n hE.1 hE.2.1 dX3_fetch_0 rfl (lv_at hl 0 rfl) ?_
  refine cgf_X3_24 hE hw dX3_fetch_1 ?_
  refine clVi (rest := []) (As := []) hE hml hl.1 hw (c_X4_pop_9 hE.2.2.2.2.2 l _ _ hq) cu42 cu43 cu44 cu45 cu33 rfl (k := 0) (by decide +kernel) (by decide) (ci := 4) rfl (q0 := 9) rfl rfl rfl (Nat.le_of_ble_eq_true rfl) dX3_fetch_4 (by decide) (fun r1 σ1 hq H locs hw => ?_)
  refine lv_istore_n (lv' := [(1, .int r1), (0, .ref (gAd G 8))]) hE.1 hE.2.1 dX3_fetch_7 rfl hl (by decide) rfl (fun ls hl => ?_)
  refine lv_aload_n hE.1 hE.2.1 dX3_fetch_8 rfl (lv_at hl 1 rfl) ?_
  refine lv_iload_n hE.1 hE.2.1 dX3_fetch_9 rfl (lv_at hl 0 rfl) ?_
  refine clVv (rest := []) (As := [.int r1]) hE hml hl.1 hw (c_X3_lookAtCell hE.2.2.2.2.2 l _ _ _ hq) cu49 cu50 cu51 cu52 cu38 rfl (k := 1) (by decide +kernel) (by decide) (ci := 3) rfl (q0 := 8) rfl rfl rfl (Nat.le_of_ble_eq_true rfl) dX3_fetch_10 (by decide) (fun σ2 hq H locs hw => ?_)
  refine lv_aload_n hE.1 hE.2.1 dX3_fetch_13 rfl (lv_at hl 1 rfl) ?_
  refine cgf_X3_63 hE hw dX3_fetch_14 ?_
  refine lv_if_ne (tgt := 33) hE.1 hE.2.1 dX3_fetch_17 (by decide) (fun c2 => ?_) (fun c2 => ?_)
  · have hq := hq.2 c2
    exact rtV hE hr hlk hw hq dX3_fetch_33
  · have hq := hq.1 c2
    refine lv_aload_n hE.1 hE.2.1 dX3_fetch_20 rfl (lv_at hl 1 rfl) ?_
    refine cgf_X3_24 hE hw dX3_fetch_21 ?_
    refine lv_aload_n hE.1 hE.2.1 dX3_fetch_24 rfl (lv_at hl 1 rfl) ?_
    refine cgf_X3_15 hE hw dX3_fetch_25 ?_
    refine lv_iload_n hE.1 hE.2.1 dX3_fetch_28 rfl (lv_at hl 0 rfl) ?_
    obtain ⟨hi3, hq⟩ := hq
    refine cal_33 hE hw hi3 dX3_fetch_29 ?_
    refine clVv (rest := []) (As := [.int (σ2.2.1 21 (r1).toNatClampNeg)]) hE hml hl.1 hw (c_X4_push_9 hE.2.2.2.2.2 l _ _ _ hq) cu32 cu34 cu35 cu36 cu33 rfl (k := 1) (by decide +kernel) (by decide) (ci := 4) rfl (q0 := 9) rfl rfl rfl (Nat.le_of_ble_eq_true rfl) dX3_fetch_30 (by decide) (fun σ3 hq H locs hw => ?_)
    exact rtV hE hr hlk hw hq dX3_fetch_33
/-! QueueBench$Machine.joined(CII)I -/
abbrev rm_X3_joined : Room := { frames := 0, cells := 0, slots := 0, locals := 0 }
def wp_X3_joined (a0 : Int32) (a1 : Int32) (a2 : Int32) (σ : S9) (Φ : Int32 → S9 → Prop) : Prop := (a0 = (37 : Int32) → (a2 = 0 → Φ (0 : Int32) σ) ∧ (¬ a2 = 0 → ¬ a2 = 0 ∧ Φ (a1 - a1 / a2 * a2) σ)) ∧ (¬ a0 = (37 : Int32) → (a0 = (42 : Int32) → Φ (a1 * a2) σ) ∧ (¬ a0 = (42 : Int32) → (a0 = (43 : Int32) → Φ (a1 + a2) σ) ∧ (¬ a0 = (43 : Int32) → (a0 = (45 : Int32) → Φ (a1 - a2) σ) ∧ (¬ a0 = (45 : Int32) → (a0 = (47 : Int32) → (a2 = 0 → Φ (0 : Int32) σ) ∧ (¬ a2 = 0 → ¬ a2 = 0 ∧ Φ (a1 / a2) σ)) ∧ (¬ a0 = (47 : Int32) → (a0 = (60 : Int32) → (a2 ≤ a1 → Φ (0 : Int32) σ) ∧ (¬ a2 ≤ a1 → Φ (1 : Int32) σ)) ∧ (¬ a0 = (60 : Int32) → (a1 = a2 → Φ (1 : Int32) σ) ∧ (¬ a1 = a2 → Φ (0 : Int32) σ)))))))
theorem dX3_joined_0 : decode cX3_joined 0 = .ok (.iload_n 0, 1) := by decide +kernel
theorem dX3_joined_1 : decode cX3_joined 1 = .ok (.lookupswitch 106 #[(37, 83), (42, 67), (43, 59), (45, 63), (47, 71), (60, 95)], 59) := by decide +kernel
theorem dX3_joined_60 : decode cX3_joined 60 = .ok (.iload_n 1, 1) := by decide +kernel
theorem dX3_joined_61 : decode cX3_joined 61 = .ok (.iload_n 2, 1) := by decide +kernel
theorem dX3_joined_62 : decode cX3_joined 62 = .ok (.iadd, 1) := by decide +kernel
theorem dX3_joined_63 : decode cX3_joined 63 = .ok (.ireturn, 1) := by decide +kernel
theorem dX3_joined_64 : decode cX3_joined 64 = .ok (.iload_n 1, 1) := by decide +kernel
theorem dX3_joined_65 : decode cX3_joined 65 = .ok (.iload_n 2, 1) := by decide +kernel
theorem dX3_joined_66 : decode cX3_joined 66 = .ok (.isub, 1) := by decide +kernel
theorem dX3_joined_67 : decode cX3_joined 67 = .ok (.ireturn, 1) := by decide +kernel
theorem dX3_joined_68 : decode cX3_joined 68 = .ok (.iload_n 1, 1) := by decide +kernel
theorem dX3_joined_69 : decode cX3_joined 69 = .ok (.iload_n 2, 1) := by decide +kernel
theorem dX3_joined_70 : decode cX3_joined 70 = .ok (.imul, 1) := by decide +kernel
theorem dX3_joined_71 : decode cX3_joined 71 = .ok (.ireturn, 1) := by decide +kernel
theorem dX3_joined_72 : decode cX3_joined 72 = .ok (.iload_n 2, 1) := by decide +kernel
theorem dX3_joined_73 : decode cX3_joined 73 = .ok (.ifCond .ne 7, 3) := by decide +kernel
theorem dX3_joined_76 : decode cX3_joined 76 = .ok (.iconst 0, 1) := by decide +kernel
theorem dX3_joined_77 : decode cX3_joined 77 = .ok (.goto 6, 3) := by decide +kernel
theorem dX3_joined_80 : decode cX3_joined 80 = .ok (.iload_n 1, 1) := by decide +kernel
theorem dX3_joined_81 : decode cX3_joined 81 = .ok (.iload_n 2, 1) := by decide +kernel
theorem dX3_joined_82 : decode cX3_joined 82 = .ok (.idiv, 1) := by decide +kernel
theorem dX3_joined_83 : decode cX3_joined 83 = .ok (.ireturn, 1) := by decide +kernel
theorem dX3_joined_84 : decode cX3_joined 84 = .ok (.iload_n 2, 1) := by decide +kernel
theorem dX3_joined_85 : decode cX3_joined 85 = .ok (.ifCond .ne 7, 3) := by decide +kernel
theorem dX3_joined_88 : decode cX3_joined 88 = .ok (.iconst 0, 1) := by decide +kernel
theorem dX3_joined_89 : decode cX3_joined 89 = .ok (.goto 6, 3) := by decide +kernel
theorem dX3_joined_92 : decode cX3_joined 92 = .ok (.iload_n 1, 1) := by decide +kernel
theorem dX3_joined_93 : decode cX3_joined 93 = .ok (.iload_n 2, 1) := by decide +kernel
theorem dX3_joined_94 : decode cX3_joined 94 = .ok (.irem, 1) := by decide +kernel
theorem dX3_joined_95 : decode cX3_joined 95 = .ok (.ireturn, 1) := by decide +kernel
theorem dX3_joined_96 : decode cX3_joined 96 = .ok (.iload_n 1, 1) := by decide +kernel
theorem dX3_joined_97 : decode cX3_joined 97 = .ok (.iload_n 2, 1) := by decide +kernel
theorem dX3_joined_98 : decode cX3_joined 98 = .ok (.if_icmp .ge 7, 3) := by decide +kernel
theorem dX3_joined_101 : decode cX3_joined 101 = .ok (.iconst 1, 1) := by decide +kernel
theorem dX3_joined_102 : decode cX3_joined 102 = .ok (.goto 4, 3) := by decide +kernel
theorem dX3_joined_105 : decode cX3_joined 105 = .ok (.iconst 0, 1) := by decide +kernel
theorem dX3_joined_106 : decode cX3_joined 106 = .ok (.ireturn, 1) := by decide +kernel
theorem dX3_joined_107 : decode cX3_joined 107 = .ok (.iload_n 1, 1) := by decide +kernel
theorem dX3_joined_108 : decode cX3_joined 108 = .ok (.iload_n 2, 1) := by decide +kernel
theorem dX3_joined_109 : decode cX3_joined 109 = .ok (.if_icmp .ne 7, 3) := by decide +kernel
theorem dX3_joined_112 : decode cX3_joined 112 = .ok (.iconst 1, 1) := by decide +kernel
theorem dX3_joined_113 : decode cX3_joined 113 = .ok (.goto 4, 3) := by decide +kernel
theorem dX3_joined_116 : decode cX3_joined 116 = .ok (.iconst 0, 1) := by decide +kernel
theorem dX3_joined_117 : decode cX3_joined 117 = .ok (.ireturn, 1) := by decide +kernel
set_option maxRecDepth 20000 in
set_option maxHeartbeats 4000000 in
theorem c_X3_joined {G : GG} (hJ : gJ 40 G) (l : Launch) (a0 : Int32) (a1 : Int32) (a2 : Int32) (σ : S9) (Φ : Int32 → S9 → Prop) (hq : wp_X3_joined a0 a1 a2 σ Φ) : CI cwl 40 G l yX3_joined cX3_joined 3 (some .int) rm_X3_joined [.int a0, .int a1, .int a2] σ Φ := by
  refine CI.intro (by decide) (Nat.le_of_ble_eq_true rfl) hJ ?_
  intro p e s m args below meth c ls hE hml hr hlk hw hl
  have hl : lv_has ls 3 [(0, .int a0), (1, .int a1), (2, .int a2)] := hl
  unfold wp_X3_joined at hq
  refine lv_iload_n hE.1 hE.2.1 dX3_joined_0 rfl (lv_at hl 0 rfl) ?_
  by_cases c1 : a0 = (37 : Int32)
  · have hq := hq.1 c1
    refine lv_lookup (off := 83) (tgt := 84) hE.1 hE.2.1 dX3_joined_1 (by decide) (osw_hit c1 rfl) (by decide) ?_
    refine lv_iload_n hE.1 hE.2.1 dX3_joined_84 rfl (lv_at hl 2 rfl) ?_
    refine lv_if_ne (tgt := 92) hE.1 hE.2.1 dX3_joined_85 (by decide) (fun c2 => ?_) (fun c2 => ?_)
    · have hq := hq.2 c2
      refine lv_iload_n hE.1 hE.2.1 dX3_joined_92 rfl (lv_at hl 1 rfl) ?_
      refine lv_iload_n hE.1 hE.2.1 dX3_joined_93 rfl (lv_at hl 2 rfl) ?_
      obtain ⟨hne3, hq⟩ := hq
      refine lv_irem hE.1 hE.2.1 dX3_joined_94 hne3 ?_
      exact rtI hE hr hlk hw hq dX3_joined_95
    · have hq := hq.1 c2
      refine lv_iconst (v := (0 : Int32)) hE.1 hE.2.1 dX3_joined_88 (by decide) ?_
      refine lv_goto (tgt := 95) hE.1 hE.2.1 dX3_joined_89 (by decide) ?_
      exact rtI hE hr hlk hw hq dX3_joined_95
  · have hq := hq.2 c1
    by_cases c4 : a0 = (42 : Int32)
    · have hq := hq.1 c4
      refine lv_lookup (off := 67) (tgt := 68) hE.1 hE.2.1 dX3_joined_1 (by decide) ((lv_osw c1 rfl).trans (osw_hit c4 rfl)) (by decide) ?_
      refine lv_iload_n hE.1 hE.2.1 dX3_joined_68 rfl (lv_at hl 1 rfl) ?_
      refine lv_iload_n hE.1 hE.2.1 dX3_joined_69 rfl (lv_at hl 2 rfl) ?_
      refine lv_imul hE.1 hE.2.1 dX3_joined_70 ?_
      exact rtI hE hr hlk hw hq dX3_joined_71
    · have hq := hq.2 c4
      by_cases c5 : a0 = (43 : Int32)
      · have hq := hq.1 c5
        refine lv_lookup (off := 59) (tgt := 60) hE.1 hE.2.1 dX3_joined_1 (by decide) ((lv_osw c1 rfl).trans ((lv_osw c4 rfl).trans (osw_hit c5 rfl))) (by decide) ?_
        refine lv_iload_n hE.1 hE.2.1 dX3_joined_60 rfl (lv_at hl 1 rfl) ?_
        refine lv_iload_n hE.1 hE.2.1 dX3_joined_61 rfl (lv_at hl 2 rfl) ?_
        refine lv_iadd hE.1 hE.2.1 dX3_joined_62 ?_
        exact rtI hE hr hlk hw hq dX3_joined_63
      · have hq := hq.2 c5
        by_cases c6 : a0 = (45 : Int32)
        · have hq := hq.1 c6
          refine lv_lookup (off := 63) (tgt := 64) hE.1 hE.2.1 dX3_joined_1 (by decide) ((lv_osw c1 rfl).trans ((lv_osw c4 rfl).trans ((lv_osw c5 rfl).trans (osw_hit c6 rfl)))) (by decide) ?_
          refine lv_iload_n hE.1 hE.2.1 dX3_joined_64 rfl (lv_at hl 1 rfl) ?_
          refine lv_iload_n hE.1 hE.2.1 dX3_joined_65 rfl (lv_at hl 2 rfl) ?_
          refine lv_isub hE.1 hE.2.1 dX3_joined_66 ?_
          exact rtI hE hr hlk hw hq dX3_joined_67
        · have hq := hq.2 c6
          by_cases c7 : a0 = (47 : Int32)
          · have hq := hq.1 c7
            refine lv_lookup (off := 71) (tgt := 72) hE.1 hE.2.1 dX3_joined_1 (by decide) ((lv_osw c1 rfl).trans ((lv_osw c4 rfl).trans ((lv_osw c5 rfl).trans ((lv_osw c6 rfl).trans (osw_hit c7 rfl))))) (by decide) ?_
            refine lv_iload_n hE.1 hE.2.1 dX3_joined_72 rfl (lv_at hl 2 rfl) ?_
            refine lv_if_ne (tgt := 80) hE.1 hE.2.1 dX3_joined_73 (by decide) (fun c8 => ?_) (fun c8 => ?_)
            · have hq := hq.2 c8
              refine lv_iload_n hE.1 hE.2.1 dX3_joined_80 rfl (lv_at hl 1 rfl) ?_
              refine lv_iload_n hE.1 hE.2.1 dX3_joined_81 rfl (lv_at hl 2 rfl) ?_
              obtain ⟨hne9, hq⟩ := hq
              refine lv_idiv hE.1 hE.2.1 dX3_joined_82 hne9 ?_
              exact rtI hE hr hlk hw hq dX3_joined_83
            · have hq := hq.1 c8
              refine lv_iconst (v := (0 : Int32)) hE.1 hE.2.1 dX3_joined_76 (by decide) ?_
              refine lv_goto (tgt := 83) hE.1 hE.2.1 dX3_joined_77 (by decide) ?_
              exact rtI hE hr hlk hw hq dX3_joined_83
          · have hq := hq.2 c7
            by_cases c10 : a0 = (60 : Int32)
            · have hq := hq.1 c10
              refine lv_lookup (off := 95) (tgt := 96) hE.1 hE.2.1 dX3_joined_1 (by decide) ((lv_osw c1 rfl).trans ((lv_osw c4 rfl).trans ((lv_osw c5 rfl).trans ((lv_osw c6 rfl).trans ((lv_osw c7 rfl).trans (osw_hit c10 rfl)))))) (by decide) ?_
              refine lv_iload_n hE.1 hE.2.1 dX3_joined_96 rfl (lv_at hl 1 rfl) ?_
              refine lv_iload_n hE.1 hE.2.1 dX3_joined_97 rfl (lv_at hl 2 rfl) ?_
              refine lv_icmp_ge (tgt := 105) hE.1 hE.2.1 dX3_joined_98 (by decide) (fun c11 => ?_) (fun c11 => ?_)
              · have hq := hq.1 c11
                refine lv_iconst (v := (0 : Int32)) hE.1 hE.2.1 dX3_joined_105 (by decide) ?_
                exact rtI hE hr hlk hw hq dX3_joined_106
              · have hq := hq.2 c11
                refine lv_iconst (v := (1 : Int32)) hE.1 hE.2.1 dX3_joined_101 (by decide) ?_
                refine lv_goto (tgt := 106) hE.1 hE.2.1 dX3_joined_102 (by decide) ?_
                exact rtI hE hr hlk hw hq dX3_joined_106
            · have hq := hq.2 c10
              refine lv_lookup (off := 106) (tgt := 107) hE.1 hE.2.1 dX3_joined_1 (by decide) ((lv_osw c1 rfl).trans ((lv_osw c4 rfl).trans ((lv_osw c5 rfl).trans ((lv_osw c6 rfl).trans ((lv_osw c7 rfl).trans ((lv_osw c10 rfl).trans rfl)))))) (by decide) ?_
              refine lv_iload_n hE.1 hE.2.1 dX3_joined_107 rfl (lv_at hl 1 rfl) ?_
              refine lv_iload_n hE.1 hE.2.1 dX3_joined_108 rfl (lv_at hl 2 rfl) ?_
              refine lv_icmp_ne (tgt := 116) hE.1 hE.2.1 dX3_joined_109 (by decide) (fun c12 => ?_) (fun c12 => ?_)
              · have hq := hq.2 c12
                refine lv_iconst (v := (0 : Int32)) hE.1 hE.2.1 dX3_joined_116 (by decide) ?_
                exact rtI hE hr hlk hw hq dX3_joined_117
              · have hq := hq.1 c12
                refine lv_iconst (v := (1 : Int32)) hE.1 hE.2.1 dX3_joined_112 (by decide) ?_
                refine lv_goto (tgt := 117) hE.1 hE.2.1 dX3_joined_113 (by decide) ?_
                exact rtI hE hr hlk hw hq dX3_joined_117
/-! QueueBench$Machine.join(C)V -/
abbrev rm_X3_join : Room := { frames := 1, cells := 0, slots := 0, locals := 22 }
def wp_X3_join (a1 : Int32) (σ : S9) (Φ : S9 → Prop) : Prop := wp_X4_pop_9 σ (fun r1 σ1 => wp_X4_pop_9 σ1 (fun r2 σ2 => (r1 = 0 → (a1 = (47 : Int32) → ∀ σ5 : S9, σ5 = sF σ2 20 (2 : Int32) → Φ σ5) ∧ (¬ a1 = (47 : Int32) → (a1 = (37 : Int32) → ∀ σ8 : S9, σ8 = sF σ2 20 (2 : Int32) → Φ σ8) ∧ (¬ a1 = (37 : Int32) → wp_X3_joined a1 r2 r1 σ2 (fun r7 σ6 => wp_X4_push_9 r7 σ6 (fun σ7 => Φ σ7))))) ∧ (¬ r1 = 0 → wp_X3_joined a1 r2 r1 σ2 (fun r4 σ3 => wp_X4_push_9 r4 σ3 (fun σ4 => Φ σ4)))))
theorem dX3_join_0 : decode cX3_join 0 = .ok (.aload_n 0, 1) := by decide +kernel
theorem dX3_join_1 : decode cX3_join 1 = .ok (.getfield 24, 3) := by decide +kernel
theorem dX3_join_4 : decode cX3_join 4 = .ok (.invokevirtual 129, 3) := by decide +kernel
theorem dX3_join_7 : decode cX3_join 7 = .ok (.istore_n 2, 1) := by decide +kernel
theorem dX3_join_8 : decode cX3_join 8 = .ok (.aload_n 0, 1) := by decide +kernel
theorem dX3_join_9 : decode cX3_join 9 = .ok (.getfield 24, 3) := by decide +kernel
theorem dX3_join_12 : decode cX3_join 12 = .ok (.invokevirtual 129, 3) := by decide +kernel
theorem dX3_join_15 : decode cX3_join 15 = .ok (.istore_n 3, 1) := by decide +kernel
theorem dX3_join_16 : decode cX3_join 16 = .ok (.iload_n 2, 1) := by decide +kernel
theorem dX3_join_17 : decode cX3_join 17 = .ok (.ifCond .ne 23, 3) := by decide +kernel
theorem dX3_join_20 : decode cX3_join 20 = .ok (.iload_n 1, 1) := by decide +kernel
theorem dX3_join_21 : decode cX3_join 21 = .ok (.bipush 47, 2) := by decide +kernel
theorem dX3_join_23 : decode cX3_join 23 = .ok (.if_icmp .eq 9, 3) := by decide +kernel
theorem dX3_join_26 : decode cX3_join 26 = .ok (.iload_n 1, 1) := by decide +kernel
theorem dX3_join_27 : decode cX3_join 27 = .ok (.bipush 37, 2) := by decide +kernel
theorem dX3_join_29 : decode cX3_join 29 = .ok (.if_icmp .ne 11, 3) := by decide +kernel
theorem dX3_join_32 : decode cX3_join 32 = .ok (.aload_n 0, 1) := by decide +kernel
theorem dX3_join_33 : decode cX3_join 33 = .ok (.iconst 2, 1) := by decide +kernel
theorem dX3_join_34 : decode cX3_join 34 = .ok (.putfield 63, 3) := by decide +kernel
theorem dX3_join_37 : decode cX3_join 37 = .ok (.goto 16, 3) := by decide +kernel
theorem dX3_join_40 : decode cX3_join 40 = .ok (.aload_n 0, 1) := by decide +kernel
theorem dX3_join_41 : decode cX3_join 41 = .ok (.getfield 24, 3) := by decide +kernel
theorem dX3_join_44 : decode cX3_join 44 = .ok (.iload_n 1, 1) := by decide +kernel
theorem dX3_join_45 : decode cX3_join 45 = .ok (.iload_n 3, 1) := by decide +kernel
theorem dX3_join_46 : decode cX3_join 46 = .ok (.iload_n 2, 1) := by decide +kernel
theorem dX3_join_47 : decode cX3_join 47 = .ok (.invokestatic 147, 3) := by decide +kernel
theorem dX3_join_50 : decode cX3_join 50 = .ok (.invokevirtual 120, 3) := by decide +kernel
theorem dX3_join_53 : decode cX3_join 53 = .ok (.return_, 1) := by decide +kernel
set_option maxRecDepth 20000 in
set_option maxHeartbeats 4000000 in
theorem c_X3_join {G : GG} (hJ : gJ 40 G) (l : Launch) (a1 : Int32) (σ : S9) (Φ : S9 → Prop) (hq : wp_X3_join a1 σ Φ) : CV cwl 40 G l yX3_join cX3_join 4 rm_X3_join [.ref (gAd G 8), .int a1] σ Φ := by
  refine CV.intro (by decide) (Nat.le_of_ble_eq_true rfl) hJ ?_
  intro p e s m args below meth c ls hE hml hr hlk hw hl
  have hl : lv_has ls 4 [(0, .ref (gAd G 8)), (1, .int a1)] := hl
  unfold wp_X3_join at hq
  refine lv_aload_n hE.1 hE.2.1 dX3_join_0 rfl (lv_at hl 0 rfl) ?_
  refine cgf_X3_24 hE hw dX3_join_1 ?_
  refine clVi (rest := []) (As := []) hE hml hl.1 hw (c_X4_pop_9 hE.2.2.2.2.2 l _ _ hq) cu42 cu43 cu44 cu45 cu33 rfl (k := 0) (by decide +kernel) (by decide) (ci := 4) rfl (q0 := 9) rfl rfl rfl (Nat.le_of_ble_eq_true rfl) dX3_join_4 (by decide) (fun r1 σ1 hq H locs hw => ?_)
  refine lv_istore_n (lv' := [(2, .int r1), (0, .ref (gAd G 8)), (1, .int a1)]) hE.1 hE.2.1 dX3_join_7 rfl hl (by decide) rfl (fun ls hl => ?_)
  refine lv_aload_n hE.1 hE.2.1 dX3_join_8 rfl (lv_at hl 1 rfl) ?_
  refine cgf_X3_24 hE hw dX3_join_9 ?_
  refine clVi (rest := []) (As := []) hE hml hl.1 hw (c_X4_pop_9 hE.2.2.2.2.2 l _ _ hq) cu42 cu43 cu44 cu45 cu33 rfl (k := 0) (by decide +kernel) (by decide) (ci := 4) rfl (q0 := 9) rfl rfl rfl (Nat.le_of_ble_eq_true rfl) dX3_join_12 (by decide) (fun r2 σ2 hq H locs hw => ?_)
  refine lv_istore_n (lv' := [(3, .int r2), (2, .int r1), (0, .ref (gAd G 8)), (1, .int a1)]) hE.1 hE.2.1 dX3_join_15 rfl hl (by decide) rfl (fun ls hl => ?_)
  refine lv_iload_n hE.1 hE.2.1 dX3_join_16 rfl (lv_at hl 1 rfl) ?_
  refine lv_if_ne (tgt := 40) hE.1 hE.2.1 dX3_join_17 (by decide) (fun c3 => ?_) (fun c3 => ?_)
  · have hq := hq.2 c3
    refine lv_aload_n hE.1 hE.2.1 dX3_join_40 rfl (lv_at hl 2 rfl) ?_
    refine cgf_X3_24 hE hw dX3_join_41 ?_
    refine lv_iload_n hE.1 hE.2.1 dX3_join_44 rfl (lv_at hl 3 rfl) ?_
    refine lv_iload_n hE.1 hE.2.1 dX3_join_45 rfl (lv_at hl 0 rfl) ?_
    refine lv_iload_n hE.1 hE.2.1 dX3_join_46 rfl (lv_at hl 1 rfl) ?_
    refine clSi (rest := [.ref (gAd G 9)]) (As := [.int a1, .int r2, .int r1]) hE hml hl.1 hw (c_X3_joined hE.2.2.2.2.2 l _ _ _ _ _ hq) cu57 cu58 cu59 cu38 (k := 3) (by decide +kernel) (by decide) rfl rfl (Nat.le_of_ble_eq_true rfl) dX3_join_47 (by decide) (fun r4 σ3 hq H locs hw => ?_)
    refine clVv (rest := []) (As := [.int r4]) hE hml hl.1 hw (c_X4_push_9 hE.2.2.2.2.2 l _ _ _ hq) cu32 cu34 cu35 cu36 cu33 rfl (k := 1) (by decide +kernel) (by decide) (ci := 4) rfl (q0 := 9) rfl rfl rfl (Nat.le_of_ble_eq_true rfl) dX3_join_50 (by decide) (fun σ4 hq H locs hw => ?_)
    exact rtV hE hr hlk hw hq dX3_join_53
  · have hq := hq.1 c3
    refine lv_iload_n hE.1 hE.2.1 dX3_join_20 rfl (lv_at hl 3 rfl) ?_
    refine lv_bipush (v := (47 : Int32)) hE.1 hE.2.1 dX3_join_21 (by decide) ?_
    refine lv_icmp_eq (tgt := 32) hE.1 hE.2.1 dX3_join_23 (by decide) (fun c5 => ?_) (fun c5 => ?_)
    · have hq := hq.1 c5
      refine lv_aload_n hE.1 hE.2.1 dX3_join_32 rfl (lv_at hl 2 rfl) ?_
      refine lv_iconst (v := (2 : Int32)) hE.1 hE.2.1 dX3_join_33 (by decide) ?_
      refine cpf_X3_63 hE hw dX3_join_34 (fun σ5 eσ5 H locs hw => ?_)
      have hq := hq σ5 eσ5
      refine lv_goto (tgt := 53) hE.1 hE.2.1 dX3_join_37 (by decide) ?_
      exact rtV hE hr hlk hw hq dX3_join_53
    · have hq := hq.2 c5
      refine lv_iload_n hE.1 hE.2.1 dX3_join_26 rfl (lv_at hl 3 rfl) ?_
      refine lv_bipush (v := (37 : Int32)) hE.1 hE.2.1 dX3_join_27 (by decide) ?_
      refine lv_icmp_ne (tgt := 40) hE.1 hE.2.1 dX3_join_29 (by decide) (fun c6 => ?_) (fun c6 => ?_)
      · have hq := hq.2 c6
        refine lv_aload_n hE.1 hE.2.1 dX3_join_40 rfl (lv_at hl 2 rfl) ?_
        refine cgf_X3_24 hE hw dX3_join_41 ?_
        refine lv_iload_n hE.1 hE.2.1 dX3_join_44 rfl (lv_at hl 3 rfl) ?_
        refine lv_iload_n hE.1 hE.2.1 dX3_join_45 rfl (lv_at hl 0 rfl) ?_
        refine lv_iload_n hE.1 hE.2.1 dX3_join_46 rfl (lv_at hl 1 rfl) ?_
        refine clSi (rest := [.ref (gAd G 9)]) (As := [.int a1, .int r2, .int r1]) hE hml hl.1 hw (c_X3_joined hE.2.2.2.2.2 l _ _ _ _ _ hq) cu57 cu58 cu59 cu38 (k := 3) (by decide +kernel) (by decide) rfl rfl (Nat.le_of_ble_eq_true rfl) dX3_join_47 (by decide) (fun r7 σ6 hq H locs hw => ?_)
        refine clVv (rest := []) (As := [.int r7]) hE hml hl.1 hw (c_X4_push_9 hE.2.2.2.2.2 l _ _ _ hq) cu32 cu34 cu35 cu36 cu33 rfl (k := 1) (by decide +kernel) (by decide) (ci := 4) rfl (q0 := 9) rfl rfl rfl (Nat.le_of_ble_eq_true rfl) dX3_join_50 (by decide) (fun σ7 hq H locs hw => ?_)
        exact rtV hE hr hlk hw hq dX3_join_53
      · have hq := hq.1 c6
        refine lv_aload_n hE.1 hE.2.1 dX3_join_32 rfl (lv_at hl 2 rfl) ?_
        refine lv_iconst (v := (2 : Int32)) hE.1 hE.2.1 dX3_join_33 (by decide) ?_
        refine cpf_X3_63 hE hw dX3_join_34 (fun σ8 eσ8 H locs hw => ?_)
        have hq := hq σ8 eσ8
        refine lv_goto (tgt := 53) hE.1 hE.2.1 dX3_join_37 (by decide) ?_
        exact rtV hE hr hlk hw hq dX3_join_53
/-! QueueBench$Machine.workOutSign(CI)V -/
abbrev rm_X3_workOutSign : Room := { frames := 3, cells := 0, slots := 0, locals := 62 }
def wp_X3_workOutSign (a1 : Int32) (a2 : Int32) (σ : S9) (Φ : S9 → Prop) : Prop := (a1 = (35 : Int32) → wp_X3_read σ (fun σ1 => Φ σ1)) ∧ (¬ a1 = (35 : Int32) → (a1 = (48 : Int32) → wp_X4_push_9 a2 σ (fun σ2 => Φ σ2)) ∧ (¬ a1 = (48 : Int32) → (a1 = (64 : Int32) → wp_X3_fetch σ (fun σ3 => Φ σ3)) ∧ (¬ a1 = (64 : Int32) → (a1 = (97 : Int32) → vp_in a2 26 ∧ wp_X4_push_9 (σ.2.1 20 (a2).toNatClampNeg) σ (fun σ4 => Φ σ4)) ∧ (¬ a1 = (97 : Int32) → (a1 = (126 : Int32) → wp_X4_pop_9 σ (fun r7 σ5 => wp_X4_push_9 (-r7) σ5 (fun σ6 => Φ σ6))) ∧ (¬ a1 = (126 : Int32) → wp_X3_join a1 σ (fun σ7 => Φ σ7))))))
theorem dX3_workOutSign_0 : decode cX3_workOutSign 0 = .ok (.iload_n 1, 1) := by decide +kernel
theorem dX3_workOutSign_1 : decode cX3_workOutSign 1 = .ok (.lookupswitch 110 #[(35, 78), (48, 51), (64, 85), (97, 62), (126, 92)], 51) := by decide +kernel
theorem dX3_workOutSign_52 : decode cX3_workOutSign 52 = .ok (.aload_n 0, 1) := by decide +kernel
theorem dX3_workOutSign_53 : decode cX3_workOutSign 53 = .ok (.getfield 24, 3) := by decide +kernel
theorem dX3_workOutSign_56 : decode cX3_workOutSign 56 = .ok (.iload_n 2, 1) := by decide +kernel
theorem dX3_workOutSign_57 : decode cX3_workOutSign 57 = .ok (.invokevirtual 120, 3) := by decide +kernel
theorem dX3_workOutSign_60 : decode cX3_workOutSign 60 = .ok (.goto 56, 3) := by decide +kernel
theorem dX3_workOutSign_63 : decode cX3_workOutSign 63 = .ok (.aload_n 0, 1) := by decide +kernel
theorem dX3_workOutSign_64 : decode cX3_workOutSign 64 = .ok (.getfield 24, 3) := by decide +kernel
theorem dX3_workOutSign_67 : decode cX3_workOutSign 67 = .ok (.aload_n 0, 1) := by decide +kernel
theorem dX3_workOutSign_68 : decode cX3_workOutSign 68 = .ok (.getfield 9, 3) := by decide +kernel
theorem dX3_workOutSign_71 : decode cX3_workOutSign 71 = .ok (.iload_n 2, 1) := by decide +kernel
theorem dX3_workOutSign_72 : decode cX3_workOutSign 72 = .ok (.iaload, 1) := by decide +kernel
theorem dX3_workOutSign_73 : decode cX3_workOutSign 73 = .ok (.invokevirtual 120, 3) := by decide +kernel
theorem dX3_workOutSign_76 : decode cX3_workOutSign 76 = .ok (.goto 40, 3) := by decide +kernel
theorem dX3_workOutSign_79 : decode cX3_workOutSign 79 = .ok (.aload_n 0, 1) := by decide +kernel
theorem dX3_workOutSign_80 : decode cX3_workOutSign 80 = .ok (.invokevirtual 123, 3) := by decide +kernel
theorem dX3_workOutSign_83 : decode cX3_workOutSign 83 = .ok (.goto 33, 3) := by decide +kernel
theorem dX3_workOutSign_86 : decode cX3_workOutSign 86 = .ok (.aload_n 0, 1) := by decide +kernel
theorem dX3_workOutSign_87 : decode cX3_workOutSign 87 = .ok (.invokevirtual 126, 3) := by decide +kernel
theorem dX3_workOutSign_90 : decode cX3_workOutSign 90 = .ok (.goto 26, 3) := by decide +kernel
theorem dX3_workOutSign_93 : decode cX3_workOutSign 93 = .ok (.aload_n 0, 1) := by decide +kernel
theorem dX3_workOutSign_94 : decode cX3_workOutSign 94 = .ok (.getfield 24, 3) := by decide +kernel
theorem dX3_workOutSign_97 : decode cX3_workOutSign 97 = .ok (.aload_n 0, 1) := by decide +kernel
theorem dX3_workOutSign_98 : decode cX3_workOutSign 98 = .ok (.getfield 24, 3) := by decide +kernel
theorem dX3_workOutSign_101 : decode cX3_workOutSign 101 = .ok (.invokevirtual 129, 3) := by decide +kernel
theorem dX3_workOutSign_104 : decode cX3_workOutSign 104 = .ok (.ineg, 1) := by decide +kernel
theorem dX3_workOutSign_105 : decode cX3_workOutSign 105 = .ok (.invokevirtual 120, 3) := by decide +kernel
theorem dX3_workOutSign_108 : decode cX3_workOutSign 108 = .ok (.goto 8, 3) := by decide +kernel
theorem dX3_workOutSign_111 : decode cX3_workOutSign 111 = .ok (.aload_n 0, 1) := by decide +kernel
theorem dX3_workOutSign_112 : decode cX3_workOutSign 112 = .ok (.iload_n 1, 1) := by decide +kernel
theorem dX3_workOutSign_113 : decode cX3_workOutSign 113 = .ok (.invokevirtual 133, 3) := by decide +kernel
theorem dX3_workOutSign_116 : decode cX3_workOutSign 116 = .ok (.return_, 1) := by decide +kernel
set_option maxRecDepth 20000 in
set_option maxHeartbeats 4000000 in
theorem c_X3_workOutSign {G : GG} (hJ : gJ 40 G) (l : Launch) (a1 : Int32) (a2 : Int32) (σ : S9) (Φ : S9 → Prop) (hq : wp_X3_workOutSign a1 a2 σ Φ) : CV cwl 40 G l yX3_workOutSign cX3_workOutSign 3 rm_X3_workOutSign [.ref (gAd G 8), .int a1, .int a2] σ Φ := by
  refine CV.intro (by decide) (Nat.le_of_ble_eq_true rfl) hJ ?_
  intro p e s m args below meth c ls hE hml hr hlk hw hl
  have hl : lv_has ls 3 [(0, .ref (gAd G 8)), (1, .int a1), (2, .int a2)] := hl
  unfold wp_X3_workOutSign at hq
  refine lv_iload_n hE.1 hE.2.1 dX3_workOutSign_0 rfl (lv_at hl 1 rfl) ?_
  by_cases c1 : a1 = (35 : Int32)
  · have hq := hq.1 c1
    refine lv_lookup (off := 78) (tgt := 79) hE.1 hE.2.1 dX3_workOutSign_1 (by decide) (osw_hit c1 rfl) (by decide) ?_
    refine lv_aload_n hE.1 hE.2.1 dX3_workOutSign_79 rfl (lv_at hl 0 rfl) ?_
    refine clVv (rest := []) (As := []) hE hml hl.1 hw (c_X3_read hE.2.2.2.2.2 l _ _ hq) cu37 cu39 cu40 cu41 cu38 rfl (k := 0) (by decide +kernel) (by decide) (ci := 3) rfl (q0 := 8) rfl rfl rfl (Nat.le_of_ble_eq_true rfl) dX3_workOutSign_80 (by decide) (fun σ1 hq H locs hw => ?_)
    refine lv_goto (tgt := 116) hE.1 hE.2.1 dX3_workOutSign_83 (by decide) ?_
    exact rtV hE hr hlk hw hq dX3_workOutSign_116
  · have hq := hq.2 c1
    by_cases c2 : a1 = (48 : Int32)
    · have hq := hq.1 c2
      refine lv_lookup (off := 51) (tgt := 52) hE.1 hE.2.1 dX3_workOutSign_1 (by decide) ((lv_osw c1 rfl).trans (osw_hit c2 rfl)) (by decide) ?_
      refine lv_aload_n hE.1 hE.2.1 dX3_workOutSign_52 rfl (lv_at hl 0 rfl) ?_
      refine cgf_X3_24 hE hw dX3_workOutSign_53 ?_
      refine lv_iload_n hE.1 hE.2.1 dX3_workOutSign_56 rfl (lv_at hl 2 rfl) ?_
      refine clVv (rest := []) (As := [.int a2]) hE hml hl.1 hw (c_X4_push_9 hE.2.2.2.2.2 l _ _ _ hq) cu32 cu34 cu35 cu36 cu33 rfl (k := 1) (by decide +kernel) (by decide) (ci := 4) rfl (q0 := 9) rfl rfl rfl (Nat.le_of_ble_eq_true rfl) dX3_workOutSign_57 (by decide) (fun σ2 hq H locs hw => ?_)
      refine lv_goto (tgt := 116) hE.1 hE.2.1 dX3_workOutSign_60 (by decide) ?_
      exact rtV hE hr hlk hw hq dX3_workOutSign_116
    · have hq := hq.2 c2
      by_cases c3 : a1 = (64 : Int32)
      · have hq := hq.1 c3
        refine lv_lookup (off := 85) (tgt := 86) hE.1 hE.2.1 dX3_workOutSign_1 (by decide) ((lv_osw c1 rfl).trans ((lv_osw c2 rfl).trans (osw_hit c3 rfl))) (by decide) ?_
        refine lv_aload_n hE.1 hE.2.1 dX3_workOutSign_86 rfl (lv_at hl 0 rfl) ?_
        refine clVv (rest := []) (As := []) hE hml hl.1 hw (c_X3_fetch hE.2.2.2.2.2 l _ _ hq) cu53 cu54 cu55 cu56 cu38 rfl (k := 0) (by decide +kernel) (by decide) (ci := 3) rfl (q0 := 8) rfl rfl rfl (Nat.le_of_ble_eq_true rfl) dX3_workOutSign_87 (by decide) (fun σ3 hq H locs hw => ?_)
        refine lv_goto (tgt := 116) hE.1 hE.2.1 dX3_workOutSign_90 (by decide) ?_
        exact rtV hE hr hlk hw hq dX3_workOutSign_116
      · have hq := hq.2 c3
        by_cases c4 : a1 = (97 : Int32)
        · have hq := hq.1 c4
          refine lv_lookup (off := 62) (tgt := 63) hE.1 hE.2.1 dX3_workOutSign_1 (by decide) ((lv_osw c1 rfl).trans ((lv_osw c2 rfl).trans ((lv_osw c3 rfl).trans (osw_hit c4 rfl)))) (by decide) ?_
          refine lv_aload_n hE.1 hE.2.1 dX3_workOutSign_63 rfl (lv_at hl 0 rfl) ?_
          refine cgf_X3_24 hE hw dX3_workOutSign_64 ?_
          refine lv_aload_n hE.1 hE.2.1 dX3_workOutSign_67 rfl (lv_at hl 0 rfl) ?_
          refine cgf_X3_9 hE hw dX3_workOutSign_68 ?_
          refine lv_iload_n hE.1 hE.2.1 dX3_workOutSign_71 rfl (lv_at hl 2 rfl) ?_
          obtain ⟨hi5, hq⟩ := hq
          refine cal_32 hE hw hi5 dX3_workOutSign_72 ?_
          refine clVv (rest := []) (As := [.int (σ.2.1 20 (a2).toNatClampNeg)]) hE hml hl.1 hw (c_X4_push_9 hE.2.2.2.2.2 l _ _ _ hq) cu32 cu34 cu35 cu36 cu33 rfl (k := 1) (by decide +kernel) (by decide) (ci := 4) rfl (q0 := 9) rfl rfl rfl (Nat.le_of_ble_eq_true rfl) dX3_workOutSign_73 (by decide) (fun σ4 hq H locs hw => ?_)
          refine lv_goto (tgt := 116) hE.1 hE.2.1 dX3_workOutSign_76 (by decide) ?_
          exact rtV hE hr hlk hw hq dX3_workOutSign_116
        · have hq := hq.2 c4
          by_cases c6 : a1 = (126 : Int32)
          · have hq := hq.1 c6
            refine lv_lookup (off := 92) (tgt := 93) hE.1 hE.2.1 dX3_workOutSign_1 (by decide) ((lv_osw c1 rfl).trans ((lv_osw c2 rfl).trans ((lv_osw c3 rfl).trans ((lv_osw c4 rfl).trans (osw_hit c6 rfl))))) (by decide) ?_
            refine lv_aload_n hE.1 hE.2.1 dX3_workOutSign_93 rfl (lv_at hl 0 rfl) ?_
            refine cgf_X3_24 hE hw dX3_workOutSign_94 ?_
            refine lv_aload_n hE.1 hE.2.1 dX3_workOutSign_97 rfl (lv_at hl 0 rfl) ?_
            refine cgf_X3_24 hE hw dX3_workOutSign_98 ?_
            refine clVi (rest := [.ref (gAd G 9)]) (As := []) hE hml hl.1 hw (c_X4_pop_9 hE.2.2.2.2.2 l _ _ hq) cu42 cu43 cu44 cu45 cu33 rfl (k := 0) (by decide +kernel) (by decide) (ci := 4) rfl (q0 := 9) rfl rfl rfl (Nat.le_of_ble_eq_true rfl) dX3_workOutSign_101 (by decide) (fun r7 σ5 hq H locs hw => ?_)
            refine lv_ineg hE.1 hE.2.1 dX3_workOutSign_104 ?_
            refine clVv (rest := []) (As := [.int (-r7)]) hE hml hl.1 hw (c_X4_push_9 hE.2.2.2.2.2 l _ _ _ hq) cu32 cu34 cu35 cu36 cu33 rfl (k := 1) (by decide +kernel) (by decide) (ci := 4) rfl (q0 := 9) rfl rfl rfl (Nat.le_of_ble_eq_true rfl) dX3_workOutSign_105 (by decide) (fun σ6 hq H locs hw => ?_)
            refine lv_goto (tgt := 116) hE.1 hE.2.1 dX3_workOutSign_108 (by decide) ?_
            exact rtV hE hr hlk hw hq dX3_workOutSign_116
          · have hq := hq.2 c6
            refine lv_lookup (off := 110) (tgt := 111) hE.1 hE.2.1 dX3_workOutSign_1 (by decide) ((lv_osw c1 rfl).trans ((lv_osw c2 rfl).trans ((lv_osw c3 rfl).trans ((lv_osw c4 rfl).trans ((lv_osw c6 rfl).trans rfl))))) (by decide) ?_
            refine lv_aload_n hE.1 hE.2.1 dX3_workOutSign_111 rfl (lv_at hl 0 rfl) ?_
            refine lv_iload_n hE.1 hE.2.1 dX3_workOutSign_112 rfl (lv_at hl 1 rfl) ?_
            refine clVv (rest := []) (As := [.int a1]) hE hml hl.1 hw (c_X3_join hE.2.2.2.2.2 l _ _ _ hq) cu60 cu61 cu62 cu63 cu38 rfl (k := 1) (by decide +kernel) (by decide) (ci := 3) rfl (q0 := 8) rfl rfl rfl (Nat.le_of_ble_eq_true rfl) dX3_workOutSign_113 (by decide) (fun σ7 hq H locs hw => ?_)
            exact rtV hE hr hlk hw hq dX3_workOutSign_116
/-! QueueBench$Machine.workOut(I)V -/
abbrev rm_X3_workOut : Room := { frames := 4, cells := 0, slots := 0, locals := 84 }
def bd_X3_workOut_b32 (K32 : Int32 → Int32 → S9 → Prop) (Φ : S9 → Prop) (a2 : Int32) (a3 : Int32) (σ : S9) : Prop := (a2 ≤ a3 → Φ σ) ∧ (¬ a2 ≤ a3 → ((σ.1 20) = 0 → vp_in a3 3000 ∧ vp_in a3 3000 ∧ wp_X3_workOutSign (σ.2.1 10 (a3).toNatClampNeg) (σ.2.1 11 (a3).toNatClampNeg) σ (fun σ1 => ∀ x5 : Int32, x5 = a3 + 1 → K32 a2 x5 σ1)) ∧ (¬ (σ.1 20) = 0 → Φ σ))
def lp_X3_workOut_b32  (Φ : S9 → Prop) : Nat → Int32 → Int32 → S9 → Prop
  | 0 => fun _ _ _ => False
  | n + 1 => bd_X3_workOut_b32  (lp_X3_workOut_b32  Φ n) Φ
def wp_X3_workOut (a1 : Int32) (σ : S9) (Φ : S9 → Prop) : Prop := ∀ σ1 : S9, σ1 = sF σ 24 (0 : Int32) → ∀ σ2 : S9, σ2 = sF σ1 23 (0 : Int32) → vp_in a1 300 ∧ ∀ x2 : Int32, x2 = (σ2.2.1 9 (a1).toNatClampNeg) → wp_X6_codeStart a1 σ2 (fun r3 σ3 => ∃ n : Nat, lp_X3_workOut_b32  Φ n x2 r3 σ3)
theorem dX3_workOut_0 : decode cX3_workOut 0 = .ok (.aload_n 0, 1) := by decide +kernel
theorem dX3_workOut_1 : decode cX3_workOut 1 = .ok (.getfield 24, 3) := by decide +kernel
theorem dX3_workOut_4 : decode cX3_workOut 4 = .ok (.iconst 0, 1) := by decide +kernel
theorem dX3_workOut_5 : decode cX3_workOut 5 = .ok (.putfield 102, 3) := by decide +kernel
theorem dX3_workOut_8 : decode cX3_workOut 8 = .ok (.aload_n 0, 1) := by decide +kernel
theorem dX3_workOut_9 : decode cX3_workOut 9 = .ok (.iconst 0, 1) := by decide +kernel
theorem dX3_workOut_10 : decode cX3_workOut 10 = .ok (.putfield 92, 3) := by decide +kernel
theorem dX3_workOut_13 : decode cX3_workOut 13 = .ok (.aload_n 0, 1) := by decide +kernel
theorem dX3_workOut_14 : decode cX3_workOut 14 = .ok (.getfield 28, 3) := by decide +kernel
theorem dX3_workOut_17 : decode cX3_workOut 17 = .ok (.getfield 105, 3) := by decide +kernel
theorem dX3_workOut_20 : decode cX3_workOut 20 = .ok (.iload_n 1, 1) := by decide +kernel
theorem dX3_workOut_21 : decode cX3_workOut 21 = .ok (.iaload, 1) := by decide +kernel
theorem dX3_workOut_22 : decode cX3_workOut 22 = .ok (.istore_n 2, 1) := by decide +kernel
theorem dX3_workOut_23 : decode cX3_workOut 23 = .ok (.aload_n 0, 1) := by decide +kernel
theorem dX3_workOut_24 : decode cX3_workOut 24 = .ok (.getfield 28, 3) := by decide +kernel
theorem dX3_workOut_27 : decode cX3_workOut 27 = .ok (.iload_n 1, 1) := by decide +kernel
theorem dX3_workOut_28 : decode cX3_workOut 28 = .ok (.invokevirtual 108, 3) := by decide +kernel
theorem dX3_workOut_31 : decode cX3_workOut 31 = .ok (.istore_n 3, 1) := by decide +kernel
theorem dX3_workOut_32 : decode cX3_workOut 32 = .ok (.iload_n 3, 1) := by decide +kernel
theorem dX3_workOut_33 : decode cX3_workOut 33 = .ok (.iload_n 2, 1) := by decide +kernel
theorem dX3_workOut_34 : decode cX3_workOut 34 = .ok (.if_icmp .ge 38, 3) := by decide +kernel
theorem dX3_workOut_37 : decode cX3_workOut 37 = .ok (.aload_n 0, 1) := by decide +kernel
theorem dX3_workOut_38 : decode cX3_workOut 38 = .ok (.getfield 63, 3) := by decide +kernel
theorem dX3_workOut_41 : decode cX3_workOut 41 = .ok (.ifCond .ne 31, 3) := by decide +kernel
theorem dX3_workOut_44 : decode cX3_workOut 44 = .ok (.aload_n 0, 1) := by decide +kernel
theorem dX3_workOut_45 : decode cX3_workOut 45 = .ok (.aload_n 0, 1) := by decide +kernel
theorem dX3_workOut_46 : decode cX3_workOut 46 = .ok (.getfield 28, 3) := by decide +kernel
theorem dX3_workOut_49 : decode cX3_workOut 49 = .ok (.getfield 111, 3) := by decide +kernel
theorem dX3_workOut_52 : decode cX3_workOut 52 = .ok (.iload_n 3, 1) := by decide +kernel
theorem dX3_workOut_53 : decode cX3_workOut 53 = .ok (.caload, 1) := by decide +kernel
theorem dX3_workOut_54 : decode cX3_workOut 54 = .ok (.aload_n 0, 1) := by decide +kernel
theorem dX3_workOut_55 : decode cX3_workOut 55 = .ok (.getfield 28, 3) := by decide +kernel
theorem dX3_workOut_58 : decode cX3_workOut 58 = .ok (.getfield 114, 3) := by decide +kernel
theorem dX3_workOut_61 : decode cX3_workOut 61 = .ok (.iload_n 3, 1) := by decide +kernel
theorem dX3_workOut_62 : decode cX3_workOut 62 = .ok (.iaload, 1) := by decide +kernel
theorem dX3_workOut_63 : decode cX3_workOut 63 = .ok (.invokevirtual 116, 3) := by decide +kernel
theorem dX3_workOut_66 : decode cX3_workOut 66 = .ok (.iinc 3 1, 3) := by decide +kernel
theorem dX3_workOut_69 : decode cX3_workOut 69 = .ok (.goto (-37), 3) := by decide +kernel
theorem dX3_workOut_72 : decode cX3_workOut 72 = .ok (.return_, 1) := by decide +kernel
set_option maxRecDepth 20000 in
set_option maxHeartbeats 4000000 in
theorem tb_X3_workOut_b32 {p : Program} {l : Launch} {e : Env} {s : State} {m : MethodId} {args : Array Value} {below : List Frame} {meth : Method} {c : Code} {G : GG} {Φ : S9 → Prop} {K32 : Int32 → Int32 → S9 → Prop} (hE : Ev 40 G p s m args c cX3_workOut RX3) (hml : c.maxLocals = 4) (hr : meth.sig.returnType = none) (hlk : meth.locks = false) (hK32 : ∀ (a2 : Int32) (a3 : Int32) (σ : S9) (H : Heap) (locs : List Loc) (ls : Array Slot), K32 a2 a3 σ → Pic cwl 40 G σ s.heap H locs → lv_has ls 4 [(0, .ref (gAd G 8)), (2, .int a2), (3, .int a3)] → W p l e rm_X3_workOut s m args below meth c H locs 0 0 (QV cwl 40 G below args s Φ) (F0 m 32 ls [])) {a2 : Int32} {a3 : Int32} {σ : S9} {H : Heap} {locs : List Loc} {ls : Array Slot} (hq : bd_X3_workOut_b32 K32 Φ a2 a3 σ) (hw : Pic cwl 40 G σ s.heap H locs) (hl : lv_has ls 4 [(0, .ref (gAd G 8)), (2, .int a2), (3, .int a3)]) : W p l e rm_X3_workOut s m args below meth c H locs 0 0 (QV cwl 40 G below args s Φ) (F0 m 32 ls []) := by
  unfold bd_X3_workOut_b32 at hq
  refine lv_iload_n hE.1 hE.2.1 dX3_workOut_32 rfl (lv_at hl 2 rfl) ?_
  refine lv_iload_n hE.1 hE.2.1 dX3_workOut_33 rfl (lv_at hl 1 rfl) ?_
  refine lv_icmp_ge (tgt := 72) hE.1 hE.2.1 dX3_workOut_34 (by decide) (fun c1 => ?_) (fun c1 => ?_)
  · have hq := hq.1 c1
    exact rtV hE hr hlk hw hq dX3_workOut_72
  · have hq := hq.2 c1
    refine lv_aload_n hE.1 hE.2.1 dX3_workOut_37 rfl (lv_at hl 0 rfl) ?_
    refine cgf_X3_63 hE hw dX3_workOut_38 ?_
    refine lv_if_ne (tgt := 72) hE.1 hE.2.1 dX3_workOut_41 (by decide) (fun c2 => ?_) (fun c2 => ?_)
    · have hq := hq.2 c2
      exact rtV hE hr hlk hw hq dX3_workOut_72
    · have hq := hq.1 c2
      refine lv_aload_n hE.1 hE.2.1 dX3_workOut_44 rfl (lv_at hl 0 rfl) ?_
      refine lv_aload_n hE.1 hE.2.1 dX3_workOut_45 rfl (lv_at hl 0 rfl) ?_
      refine cgf_X3_28 hE hw dX3_workOut_46 ?_
      refine cgf_X3_111 hE hw dX3_workOut_49 ?_
      refine lv_iload_n hE.1 hE.2.1 dX3_workOut_52 rfl (lv_at hl 2 rfl) ?_
      obtain ⟨hi3, hq⟩ := hq
      refine cal_22 hE hw hi3 dX3_workOut_53 ?_
      refine lv_aload_n hE.1 hE.2.1 dX3_workOut_54 rfl (lv_at hl 0 rfl) ?_
      refine cgf_X3_28 hE hw dX3_workOut_55 ?_
      refine cgf_X3_114 hE hw dX3_workOut_58 ?_
      refine lv_iload_n hE.1 hE.2.1 dX3_workOut_61 rfl (lv_at hl 2 rfl) ?_
      obtain ⟨hi4, hq⟩ := hq
      refine cal_23 hE hw hi4 dX3_workOut_62 ?_
      refine clVv (rest := []) (As := [.int (σ.2.1 10 (a3).toNatClampNeg), .int (σ.2.1 11 (a3).toNatClampNeg)]) hE hml hl.1 hw (c_X3_workOutSign hE.2.2.2.2.2 l _ _ _ _ hq) cu64 cu65 cu66 cu67 cu38 rfl (k := 2) (by decide +kernel) (by decide) (ci := 3) rfl (q0 := 8) rfl rfl rfl (Nat.le_of_ble_eq_true rfl) dX3_workOut_63 (by decide) (fun σ1 hq H locs hw => ?_)
      obtain ⟨x5, ex5⟩ : ∃ y : Int32, y = a3 + 1 := ⟨_, rfl⟩
      have hq := hq x5 ex5
      refine lv_iinc (v := x5) (lv' := [(3, .int x5), (0, .ref (gAd G 8)), (2, .int a2)]) hE.1 hE.2.1 dX3_workOut_66 hl (k := 2) rfl (by rw [ex5]; rfl) (by decide) rfl (fun ls hl => ?_)
      refine lv_goto (tgt := 32) hE.1 hE.2.1 dX3_workOut_69 (by decide) ?_
      exact hK32 _ _ _ _ _ _ hq hw (lv_sub hl [1, 2, 0] rfl)
theorem tl_X3_workOut_b32 {p : Program} {l : Launch} {e : Env} {s : State} {m : MethodId} {args : Array Value} {below : List Frame} {meth : Method} {c : Code} {G : GG} {Φ : S9 → Prop}  (hE : Ev 40 G p s m args c cX3_workOut RX3) (hml : c.maxLocals = 4) (hr : meth.sig.returnType = none) (hlk : meth.locks = false)  : ∀ (n : Nat) (a2 : Int32) (a3 : Int32) (σ : S9) (H : Heap) (locs : List Loc) (ls : Array Slot), lp_X3_workOut_b32  Φ n a2 a3 σ → Pic cwl 40 G σ s.heap H locs → lv_has ls 4 [(0, .ref (gAd G 8)), (2, .int a2), (3, .int a3)] → W p l e rm_X3_workOut s m args below meth c H locs 0 0 (QV cwl 40 G below args s Φ) (F0 m 32 ls []) := by
  intro n
  induction n with
  | zero => intro _ _ _ _ _ _ hq; exact hq.elim
  | succ n ih => intro _ _ _ _ _ _ hq hw hl; exact tb_X3_workOut_b32 hE hml hr hlk  ih hq hw hl
set_option maxRecDepth 20000 in
set_option maxHeartbeats 4000000 in
theorem c_X3_workOut {G : GG} (hJ : gJ 40 G) (l : Launch) (a1 : Int32) (σ : S9) (Φ : S9 → Prop) (hq : wp_X3_workOut a1 σ Φ) : CV cwl 40 G l yX3_workOut cX3_workOut 4 rm_X3_workOut [.ref (gAd G 8), .int a1] σ Φ := by
  refine CV.intro (by decide) (Nat.le_of_ble_eq_true rfl) hJ ?_
  intro p e s m args below meth c ls hE hml hr hlk hw hl
  have hl : lv_has ls 4 [(0, .ref (gAd G 8)), (1, .int a1)] := hl
  unfold wp_X3_workOut at hq
  refine lv_aload_n hE.1 hE.2.1 dX3_workOut_0 rfl (lv_at hl 0 rfl) ?_
  refine cgf_X3_24 hE hw dX3_workOut_1 ?_
  refine lv_iconst (v := (0 : Int32)) hE.1 hE.2.1 dX3_workOut_4 (by decide) ?_
  refine cpf_X3_102_9 hE hw dX3_workOut_5 (fun σ1 eσ1 H locs hw => ?_)
  have hq := hq σ1 eσ1
  refine lv_aload_n hE.1 hE.2.1 dX3_workOut_8 rfl (lv_at hl 0 rfl) ?_
  refine lv_iconst (v := (0 : Int32)) hE.1 hE.2.1 dX3_workOut_9 (by decide) ?_
  refine cpf_X3_92 hE hw dX3_workOut_10 (fun σ2 eσ2 H locs hw => ?_)
  have hq := hq σ2 eσ2
  refine lv_aload_n hE.1 hE.2.1 dX3_workOut_13 rfl (lv_at hl 0 rfl) ?_
  refine cgf_X3_28 hE hw dX3_workOut_14 ?_
  refine cgf_X3_105 hE hw dX3_workOut_17 ?_
  refine lv_iload_n hE.1 hE.2.1 dX3_workOut_20 rfl (lv_at hl 1 rfl) ?_
  obtain ⟨hi1, hq⟩ := hq
  refine cal_21 hE hw hi1 dX3_workOut_21 ?_
  refine lv_topi (fun x2 ex2 => ?_)
  have hq := hq x2 ex2
  refine lv_istore_n (lv' := [(2, .int x2), (0, .ref (gAd G 8)), (1, .int a1)]) hE.1 hE.2.1 dX3_workOut_22 rfl hl (by decide) rfl (fun ls hl => ?_)
  refine lv_aload_n hE.1 hE.2.1 dX3_workOut_23 rfl (lv_at hl 1 rfl) ?_
  refine cgf_X3_28 hE hw dX3_workOut_24 ?_
  refine lv_iload_n hE.1 hE.2.1 dX3_workOut_27 rfl (lv_at hl 2 rfl) ?_
  refine clVi (rest := []) (As := [.int a1]) hE hml hl.1 hw (c_X6_codeStart hE.2.2.2.2.2 l _ _ _ hq) cu24 cu26 cu27 cu28 cu25 rfl (k := 1) (by decide +kernel) (by decide) (ci := 6) rfl (q0 := 3) rfl rfl rfl (Nat.le_of_ble_eq_true rfl) dX3_workOut_28 (by decide) (fun r3 σ3 hq H locs hw => ?_)
  refine lv_istore_n (lv' := [(3, .int r3), (2, .int x2), (0, .ref (gAd G 8)), (1, .int a1)]) hE.1 hE.2.1 dX3_workOut_31 rfl hl (by decide) rfl (fun ls hl => ?_)
  obtain ⟨nn, hq⟩ := hq
  exact tl_X3_workOut_b32 hE hml hr hlk  nn _ _ _ _ _ _ hq hw (lv_sub hl [2, 1, 0] rfl)
/-! QueueBench$Machine.choose(I)I -/
abbrev rm_X3_choose : Room := { frames := 0, cells := 0, slots := 0, locals := 0 }
def wp_X3_choose_b33  (Φ : Int32 → S9 → Prop) (a1 : Int32) (t0 : Int32) (σ : S9) : Prop := (t0 = (-1 : Int32) → vp_in a1 300 ∧ Φ (σ.2.1 8 (a1).toNatClampNeg) σ) ∧ (¬ t0 = (-1 : Int32) → Φ t0 σ)
def wp_X3_choose (a1 : Int32) (σ : S9) (Φ : Int32 → S9 → Prop) : Prop := vp_in (0 : Int32) 60 ∧ ((σ.2.1 23 ((0 : Int32)).toNatClampNeg) = 0 → vp_in a1 300 ∧ wp_X3_choose_b33  Φ a1 (σ.2.1 7 (a1).toNatClampNeg) σ) ∧ (¬ (σ.2.1 23 ((0 : Int32)).toNatClampNeg) = 0 → vp_in a1 300 ∧ wp_X3_choose_b33  Φ a1 (σ.2.1 6 (a1).toNatClampNeg) σ)
theorem dX3_choose_0 : decode cX3_choose 0 = .ok (.aload_n 0, 1) := by decide +kernel
theorem dX3_choose_1 : decode cX3_choose 1 = .ok (.getfield 24, 3) := by decide +kernel
theorem dX3_choose_4 : decode cX3_choose 4 = .ok (.getfield 86, 3) := by decide +kernel
theorem dX3_choose_7 : decode cX3_choose 7 = .ok (.iconst 0, 1) := by decide +kernel
theorem dX3_choose_8 : decode cX3_choose 8 = .ok (.iaload, 1) := by decide +kernel
theorem dX3_choose_9 : decode cX3_choose 9 = .ok (.ifCond .eq 15, 3) := by decide +kernel
theorem dX3_choose_12 : decode cX3_choose 12 = .ok (.aload_n 0, 1) := by decide +kernel
theorem dX3_choose_13 : decode cX3_choose 13 = .ok (.getfield 28, 3) := by decide +kernel
theorem dX3_choose_16 : decode cX3_choose 16 = .ok (.getfield 169, 3) := by decide +kernel
theorem dX3_choose_19 : decode cX3_choose 19 = .ok (.iload_n 1, 1) := by decide +kernel
theorem dX3_choose_20 : decode cX3_choose 20 = .ok (.iaload, 1) := by decide +kernel
theorem dX3_choose_21 : decode cX3_choose 21 = .ok (.goto 12, 3) := by decide +kernel
theorem dX3_choose_24 : decode cX3_choose 24 = .ok (.aload_n 0, 1) := by decide +kernel
theorem dX3_choose_25 : decode cX3_choose 25 = .ok (.getfield 28, 3) := by decide +kernel
theorem dX3_choose_28 : decode cX3_choose 28 = .ok (.getfield 172, 3) := by decide +kernel
theorem dX3_choose_31 : decode cX3_choose 31 = .ok (.iload_n 1, 1) := by decide +kernel
theorem dX3_choose_32 : decode cX3_choose 32 = .ok (.iaload, 1) := by decide +kernel
theorem dX3_choose_33 : decode cX3_choose 33 = .ok (.istore_n 2, 1) := by decide +kernel
theorem dX3_choose_34 : decode cX3_choose 34 = .ok (.iload_n 2, 1) := by decide +kernel
theorem dX3_choose_35 : decode cX3_choose 35 = .ok (.iconst (-1), 1) := by decide +kernel
theorem dX3_choose_36 : decode cX3_choose 36 = .ok (.if_icmp .eq 7, 3) := by decide +kernel
theorem dX3_choose_39 : decode cX3_choose 39 = .ok (.iload_n 2, 1) := by decide +kernel
theorem dX3_choose_40 : decode cX3_choose 40 = .ok (.goto 12, 3) := by decide +kernel
theorem dX3_choose_43 : decode cX3_choose 43 = .ok (.aload_n 0, 1) := by decide +kernel
theorem dX3_choose_44 : decode cX3_choose 44 = .ok (.getfield 28, 3) := by decide +kernel
theorem dX3_choose_47 : decode cX3_choose 47 = .ok (.getfield 154, 3) := by decide +kernel
theorem dX3_choose_50 : decode cX3_choose 50 = .ok (.iload_n 1, 1) := by decide +kernel
theorem dX3_choose_51 : decode cX3_choose 51 = .ok (.iaload, 1) := by decide +kernel
theorem dX3_choose_52 : decode cX3_choose 52 = .ok (.ireturn, 1) := by decide +kernel
set_option maxRecDepth 20000 in
set_option maxHeartbeats 4000000 in
theorem tb_X3_choose_b33 {p : Program} {l : Launch} {e : Env} {s : State} {m : MethodId} {args : Array Value} {below : List Frame} {meth : Method} {c : Code} {G : GG} {Φ : Int32 → S9 → Prop}  (hE : Ev 40 G p s m args c cX3_choose RX3) (hml : c.maxLocals = 3) (hr : meth.sig.returnType = (some .int)) (hlk : meth.locks = false)  {a1 : Int32} {t0 : Int32} {σ : S9} {H : Heap} {locs : List Loc} {ls : Array Slot} (hq : wp_X3_choose_b33  Φ a1 t0 σ) (hw : Pic cwl 40 G σ s.heap H locs) (hl : lv_has ls 3 [(0, .ref (gAd G 8)), (1, .int a1)]) : W p l e rm_X3_choose s m args below meth c H locs 0 0 (QI cwl 40 G below args s Φ) (F0 m 33 ls [.int t0]) := by
  unfold wp_X3_choose_b33 at hq
  refine lv_istore_n (lv' := [(2, .int t0), (0, .ref (gAd G 8)), (1, .int a1)]) hE.1 hE.2.1 dX3_choose_33 rfl hl (by decide) rfl (fun ls hl => ?_)
  refine lv_iload_n hE.1 hE.2.1 dX3_choose_34 rfl (lv_at hl 0 rfl) ?_
  refine lv_iconst (v := (-1 : Int32)) hE.1 hE.2.1 dX3_choose_35 (by decide) ?_
  refine lv_icmp_eq (tgt := 43) hE.1 hE.2.1 dX3_choose_36 (by decide) (fun c1 => ?_) (fun c1 => ?_)
  · have hq := hq.1 c1
    refine lv_aload_n hE.1 hE.2.1 dX3_choose_43 rfl (lv_at hl 1 rfl) ?_
    refine cgf_X3_28 hE hw dX3_choose_44 ?_
    refine cgf_X3_154 hE hw dX3_choose_47 ?_
    refine lv_iload_n hE.1 hE.2.1 dX3_choose_50 rfl (lv_at hl 2 rfl) ?_
    obtain ⟨hi2, hq⟩ := hq
    refine cal_20 hE hw hi2 dX3_choose_51 ?_
    exact rtI hE hr hlk hw hq dX3_choose_52
  · have hq := hq.2 c1
    refine lv_iload_n hE.1 hE.2.1 dX3_choose_39 rfl (lv_at hl 0 rfl) ?_
    refine lv_goto (tgt := 52) hE.1 hE.2.1 dX3_choose_40 (by decide) ?_
    exact rtI hE hr hlk hw hq dX3_choose_52
set_option maxRecDepth 20000 in
set_option maxHeartbeats 4000000 in
theorem c_X3_choose {G : GG} (hJ : gJ 40 G) (l : Launch) (a1 : Int32) (σ : S9) (Φ : Int32 → S9 → Prop) (hq : wp_X3_choose a1 σ Φ) : CI cwl 40 G l yX3_choose cX3_choose 3 (some .int) rm_X3_choose [.ref (gAd G 8), .int a1] σ Φ := by
  refine CI.intro (by decide) (Nat.le_of_ble_eq_true rfl) hJ ?_
  intro p e s m args below meth c ls hE hml hr hlk hw hl
  have hl : lv_has ls 3 [(0, .ref (gAd G 8)), (1, .int a1)] := hl
  unfold wp_X3_choose at hq
  refine lv_aload_n hE.1 hE.2.1 dX3_choose_0 rfl (lv_at hl 0 rfl) ?_
  refine cgf_X3_24 hE hw dX3_choose_1 ?_
  refine cgf_X3_86_9 hE hw dX3_choose_4 ?_
  refine lv_iconst (v := (0 : Int32)) hE.1 hE.2.1 dX3_choose_7 (by decide) ?_
  obtain ⟨hi1, hq⟩ := hq
  refine cal_35 hE hw hi1 dX3_choose_8 ?_
  refine lv_if_eq (tgt := 24) hE.1 hE.2.1 dX3_choose_9 (by decide) (fun c2 => ?_) (fun c2 => ?_)
  · have hq := hq.1 c2
    refine lv_aload_n hE.1 hE.2.1 dX3_choose_24 rfl (lv_at hl 0 rfl) ?_
    refine cgf_X3_28 hE hw dX3_choose_25 ?_
    refine cgf_X3_172 hE hw dX3_choose_28 ?_
    refine lv_iload_n hE.1 hE.2.1 dX3_choose_31 rfl (lv_at hl 1 rfl) ?_
    obtain ⟨hi3, hq⟩ := hq
    refine cal_19 hE hw hi3 dX3_choose_32 ?_
    exact tb_X3_choose_b33 hE hml hr hlk  hq hw (lv_sub hl [0, 1] rfl)
  · have hq := hq.2 c2
    refine lv_aload_n hE.1 hE.2.1 dX3_choose_12 rfl (lv_at hl 0 rfl) ?_
    refine cgf_X3_28 hE hw dX3_choose_13 ?_
    refine cgf_X3_169 hE hw dX3_choose_16 ?_
    refine lv_iload_n hE.1 hE.2.1 dX3_choose_19 rfl (lv_at hl 1 rfl) ?_
    obtain ⟨hi4, hq⟩ := hq
    refine cal_18 hE hw hi4 dX3_choose_20 ?_
    refine lv_goto (tgt := 33) hE.1 hE.2.1 dX3_choose_21 (by decide) ?_
    exact tb_X3_choose_b33 hE hml hr hlk  hq hw (lv_sub hl [0, 1] rfl)
/-! QueueBench$Machine.openCall(I)V -/
abbrev rm_X3_openCall : Room := { frames := 0, cells := 0, slots := 0, locals := 0 }
def wp_X3_openCall (a1 : Int32) (σ : S9) (Φ : S9 → Prop) : Prop := ((26 : Int32) ≤ (σ.1 18) → Φ σ) ∧ (¬ (26 : Int32) ≤ (σ.1 18) → vp_in (σ.1 18) 26 ∧ ∀ σ1 : S9, σ1 = sA σ 22 (upd (σ.2.1 22) ((σ.1 18)).toNatClampNeg a1) → ∀ σ2 : S9, σ2 = sF σ1 18 ((σ1.1 18) + (1 : Int32)) → Φ σ2)
theorem dX3_openCall_0 : decode cX3_openCall 0 = .ok (.aload_n 0, 1) := by decide +kernel
theorem dX3_openCall_1 : decode cX3_openCall 1 = .ok (.getfield 52, 3) := by decide +kernel
theorem dX3_openCall_4 : decode cX3_openCall 4 = .ok (.bipush 26, 2) := by decide +kernel
theorem dX3_openCall_6 : decode cX3_openCall 6 = .ok (.if_icmp .ge 23, 3) := by decide +kernel
theorem dX3_openCall_9 : decode cX3_openCall 9 = .ok (.aload_n 0, 1) := by decide +kernel
theorem dX3_openCall_10 : decode cX3_openCall 10 = .ok (.getfield 18, 3) := by decide +kernel
theorem dX3_openCall_13 : decode cX3_openCall 13 = .ok (.aload_n 0, 1) := by decide +kernel
theorem dX3_openCall_14 : decode cX3_openCall 14 = .ok (.getfield 52, 3) := by decide +kernel
theorem dX3_openCall_17 : decode cX3_openCall 17 = .ok (.iload_n 1, 1) := by decide +kernel
theorem dX3_openCall_18 : decode cX3_openCall 18 = .ok (.iastore, 1) := by decide +kernel
theorem dX3_openCall_19 : decode cX3_openCall 19 = .ok (.aload_n 0, 1) := by decide +kernel
theorem dX3_openCall_20 : decode cX3_openCall 20 = .ok (.dup, 1) := by decide +kernel
theorem dX3_openCall_21 : decode cX3_openCall 21 = .ok (.getfield 52, 3) := by decide +kernel
theorem dX3_openCall_24 : decode cX3_openCall 24 = .ok (.iconst 1, 1) := by decide +kernel
theorem dX3_openCall_25 : decode cX3_openCall 25 = .ok (.iadd, 1) := by decide +kernel
theorem dX3_openCall_26 : decode cX3_openCall 26 = .ok (.putfield 52, 3) := by decide +kernel
theorem dX3_openCall_29 : decode cX3_openCall 29 = .ok (.return_, 1) := by decide +kernel
set_option maxRecDepth 20000 in
set_option maxHeartbeats 4000000 in
theorem c_X3_openCall {G : GG} (hJ : gJ 40 G) (l : Launch) (a1 : Int32) (σ : S9) (Φ : S9 → Prop) (hq : wp_X3_openCall a1 σ Φ) : CV cwl 40 G l yX3_openCall cX3_openCall 2 rm_X3_openCall [.ref (gAd G 8), .int a1] σ Φ := by
  refine CV.intro (by decide) (Nat.le_of_ble_eq_true rfl) hJ ?_
  intro p e s m args below meth c ls hE hml hr hlk hw hl
  have hl : lv_has ls 2 [(0, .ref (gAd G 8)), (1, .int a1)] := hl
  unfold wp_X3_openCall at hq
  refine lv_aload_n hE.1 hE.2.1 dX3_openCall_0 rfl (lv_at hl 0 rfl) ?_
  refine cgf_X3_52 hE hw dX3_openCall_1 ?_
  refine lv_bipush (v := (26 : Int32)) hE.1 hE.2.1 dX3_openCall_4 (by decide) ?_
  refine lv_icmp_ge (tgt := 29) hE.1 hE.2.1 dX3_openCall_6 (by decide) (fun c1 => ?_) (fun c1 => ?_)
  · have hq := hq.1 c1
    exact rtV hE hr hlk hw hq dX3_openCall_29
  · have hq := hq.2 c1
    refine lv_aload_n hE.1 hE.2.1 dX3_openCall_9 rfl (lv_at hl 0 rfl) ?_
    refine cgf_X3_18 hE hw dX3_openCall_10 ?_
    refine lv_aload_n hE.1 hE.2.1 dX3_openCall_13 rfl (lv_at hl 0 rfl) ?_
    refine cgf_X3_52 hE hw dX3_openCall_14 ?_
    refine lv_iload_n hE.1 hE.2.1 dX3_openCall_17 rfl (lv_at hl 1 rfl) ?_
    obtain ⟨hi2, hq⟩ := hq
    refine cas_34 hE hw hi2 dX3_openCall_18 (fun σ1 eσ1 H locs hw => ?_)
    have hq := hq σ1 eσ1
    refine lv_aload_n hE.1 hE.2.1 dX3_openCall_19 rfl (lv_at hl 0 rfl) ?_
    refine lv_dup hE.1 hE.2.1 dX3_openCall_20 rfl ?_
    refine cgf_X3_52 hE hw dX3_openCall_21 ?_
    refine lv_iconst (v := (1 : Int32)) hE.1 hE.2.1 dX3_openCall_24 (by decide) ?_
    refine lv_iadd hE.1 hE.2.1 dX3_openCall_25 ?_
    refine cpf_X3_52 hE hw dX3_openCall_26 (fun σ2 eσ2 H locs hw => ?_)
    have hq := hq σ2 eσ2
    exact rtV hE hr hlk hw hq dX3_openCall_29
/-! QueueBench$Machine.loop(I)I -/
abbrev rm_X3_loop : Room := { frames := 0, cells := 0, slots := 0, locals := 0 }
def wp_X3_loop (a1 : Int32) (σ : S9) (Φ : Int32 → S9 → Prop) : Prop := vp_in (0 : Int32) 60 ∧ ((σ.2.1 23 ((0 : Int32)).toNatClampNeg) = 0 → vp_in a1 300 ∧ Φ (σ.2.1 8 (a1).toNatClampNeg) σ) ∧ (¬ (σ.2.1 23 ((0 : Int32)).toNatClampNeg) = 0 → vp_in a1 300 ∧ ((σ.2.1 6 (a1).toNatClampNeg) = (-1 : Int32) → Φ a1 σ) ∧ (¬ (σ.2.1 6 (a1).toNatClampNeg) = (-1 : Int32) → vp_in a1 300 ∧ Φ (σ.2.1 6 (a1).toNatClampNeg) σ))
theorem dX3_loop_0 : decode cX3_loop 0 = .ok (.aload_n 0, 1) := by decide +kernel
theorem dX3_loop_1 : decode cX3_loop 1 = .ok (.getfield 24, 3) := by decide +kernel
theorem dX3_loop_4 : decode cX3_loop 4 = .ok (.getfield 86, 3) := by decide +kernel
theorem dX3_loop_7 : decode cX3_loop 7 = .ok (.iconst 0, 1) := by decide +kernel
theorem dX3_loop_8 : decode cX3_loop 8 = .ok (.iaload, 1) := by decide +kernel
theorem dX3_loop_9 : decode cX3_loop 9 = .ok (.ifCond .ne 13, 3) := by decide +kernel
theorem dX3_loop_12 : decode cX3_loop 12 = .ok (.aload_n 0, 1) := by decide +kernel
theorem dX3_loop_13 : decode cX3_loop 13 = .ok (.getfield 28, 3) := by decide +kernel
theorem dX3_loop_16 : decode cX3_loop 16 = .ok (.getfield 154, 3) := by decide +kernel
theorem dX3_loop_19 : decode cX3_loop 19 = .ok (.iload_n 1, 1) := by decide +kernel
theorem dX3_loop_20 : decode cX3_loop 20 = .ok (.iaload, 1) := by decide +kernel
theorem dX3_loop_21 : decode cX3_loop 21 = .ok (.ireturn, 1) := by decide +kernel
theorem dX3_loop_22 : decode cX3_loop 22 = .ok (.aload_n 0, 1) := by decide +kernel
theorem dX3_loop_23 : decode cX3_loop 23 = .ok (.getfield 28, 3) := by decide +kernel
theorem dX3_loop_26 : decode cX3_loop 26 = .ok (.getfield 169, 3) := by decide +kernel
theorem dX3_loop_29 : decode cX3_loop 29 = .ok (.iload_n 1, 1) := by decide +kernel
theorem dX3_loop_30 : decode cX3_loop 30 = .ok (.iaload, 1) := by decide +kernel
theorem dX3_loop_31 : decode cX3_loop 31 = .ok (.iconst (-1), 1) := by decide +kernel
theorem dX3_loop_32 : decode cX3_loop 32 = .ok (.if_icmp .eq 15, 3) := by decide +kernel
theorem dX3_loop_35 : decode cX3_loop 35 = .ok (.aload_n 0, 1) := by decide +kernel
theorem dX3_loop_36 : decode cX3_loop 36 = .ok (.getfield 28, 3) := by decide +kernel
theorem dX3_loop_39 : decode cX3_loop 39 = .ok (.getfield 169, 3) := by decide +kernel
theorem dX3_loop_42 : decode cX3_loop 42 = .ok (.iload_n 1, 1) := by decide +kernel
theorem dX3_loop_43 : decode cX3_loop 43 = .ok (.iaload, 1) := by decide +kernel
theorem dX3_loop_44 : decode cX3_loop 44 = .ok (.goto 4, 3) := by decide +kernel
theorem dX3_loop_47 : decode cX3_loop 47 = .ok (.iload_n 1, 1) := by decide +kernel
theorem dX3_loop_48 : decode cX3_loop 48 = .ok (.ireturn, 1) := by decide +kernel
set_option maxRecDepth 20000 in
set_option maxHeartbeats 4000000 in
theorem c_X3_loop {G : GG} (hJ : gJ 40 G) (l : Launch) (a1 : Int32) (σ : S9) (Φ : Int32 → S9 → Prop) (hq : wp_X3_loop a1 σ Φ) : CI cwl 40 G l yX3_loop cX3_loop 2 (some .int) rm_X3_loop [.ref (gAd G 8), .int a1] σ Φ := by
  refine CI.intro (by decide) (Nat.le_of_ble_eq_true rfl) hJ ?_
  intro p e s m args below meth c ls hE hml hr hlk hw hl
  have hl : lv_has ls 2 [(0, .ref (gAd G 8)), (1, .int a1)] := hl
  unfold wp_X3_loop at hq
  refine lv_aload_n hE.1 hE.2.1 dX3_loop_0 rfl (lv_at hl 0 rfl) ?_
  refine cgf_X3_24 hE hw dX3_loop_1 ?_
  refine cgf_X3_86_9 hE hw dX3_loop_4 ?_
  refine lv_iconst (v := (0 : Int32)) hE.1 hE.2.1 dX3_loop_7 (by decide) ?_
  obtain ⟨hi1, hq⟩ := hq
  refine cal_35 hE hw hi1 dX3_loop_8 ?_
  refine lv_if_ne (tgt := 22) hE.1 hE.2.1 dX3_loop_9 (by decide) (fun c2 => ?_) (fun c2 => ?_)
  · have hq := hq.2 c2
    refine lv_aload_n hE.1 hE.2.1 dX3_loop_22 rfl (lv_at hl 0 rfl) ?_
    refine cgf_X3_28 hE hw dX3_loop_23 ?_
    refine cgf_X3_169 hE hw dX3_loop_26 ?_
    refine lv_iload_n hE.1 hE.2.1 dX3_loop_29 rfl (lv_at hl 1 rfl) ?_
    obtain ⟨hi3, hq⟩ := hq
    refine cal_18 hE hw hi3 dX3_loop_30 ?_
    refine lv_iconst (v := (-1 : Int32)) hE.1 hE.2.1 dX3_loop_31 (by decide) ?_
    refine lv_icmp_eq (tgt := 47) hE.1 hE.2.1 dX3_loop_32 (by decide) (fun c4 => ?_) (fun c4 => ?_)
    · have hq := hq.1 c4
      refine lv_iload_n hE.1 hE.2.1 dX3_loop_47 rfl (lv_at hl 1 rfl) ?_
      exact rtI hE hr hlk hw hq dX3_loop_48
    · have hq := hq.2 c4
      refine lv_aload_n hE.1 hE.2.1 dX3_loop_35 rfl (lv_at hl 0 rfl) ?_
      refine cgf_X3_28 hE hw dX3_loop_36 ?_
      refine cgf_X3_169 hE hw dX3_loop_39 ?_
      refine lv_iload_n hE.1 hE.2.1 dX3_loop_42 rfl (lv_at hl 1 rfl) ?_
      obtain ⟨hi5, hq⟩ := hq
      refine cal_18 hE hw hi5 dX3_loop_43 ?_
      refine lv_goto (tgt := 48) hE.1 hE.2.1 dX3_loop_44 (by decide) ?_
      exact rtI hE hr hlk hw hq dX3_loop_48
  · have hq := hq.1 c2
    refine lv_aload_n hE.1 hE.2.1 dX3_loop_12 rfl (lv_at hl 0 rfl) ?_
    refine cgf_X3_28 hE hw dX3_loop_13 ?_
    refine cgf_X3_154 hE hw dX3_loop_16 ?_
    refine lv_iload_n hE.1 hE.2.1 dX3_loop_19 rfl (lv_at hl 1 rfl) ?_
    obtain ⟨hi6, hq⟩ := hq
    refine cal_20 hE hw hi6 dX3_loop_20 ?_
    exact rtI hE hr hlk hw hq dX3_loop_21
/-! QueueBench$Machine.act(I)I -/
abbrev rm_X3_act : Room := { frames := 1, cells := 0, slots := 0, locals := 22 }
def wp_X3_act (a1 : Int32) (σ : S9) (Φ : Int32 → S9 → Prop) : Prop := vp_in a1 300 ∧ ∀ x2 : Int32, x2 = (σ.2.1 4 (a1).toNatClampNeg) → vp_in a1 300 ∧ ((σ.2.1 2 (a1).toNatClampNeg) = (33 : Int32) → vp_in (0 : Int32) 60 ∧ wp_X5_append (σ.2.1 23 ((0 : Int32)).toNatClampNeg) σ (fun σ1 => vp_in a1 300 ∧ Φ (σ1.2.1 8 (a1).toNatClampNeg) σ1)) ∧ (¬ (σ.2.1 2 (a1).toNatClampNeg) = (33 : Int32) → ((σ.2.1 2 (a1).toNatClampNeg) = (61 : Int32) → vp_in (0 : Int32) 60 ∧ vp_in x2 26 ∧ ∀ σ2 : S9, σ2 = sA σ 20 (upd (σ.2.1 20) (x2).toNatClampNeg (σ.2.1 23 ((0 : Int32)).toNatClampNeg)) → vp_in a1 300 ∧ Φ (σ2.2.1 8 (a1).toNatClampNeg) σ2) ∧ (¬ (σ.2.1 2 (a1).toNatClampNeg) = (61 : Int32) → ((σ.2.1 2 (a1).toNatClampNeg) = (63 : Int32) → wp_X3_choose a1 σ (fun r12 σ3 => Φ r12 σ3)) ∧ (¬ (σ.2.1 2 (a1).toNatClampNeg) = (63 : Int32) → ((σ.2.1 2 (a1).toNatClampNeg) = (64 : Int32) → vp_in (0 : Int32) 60 ∧ vp_in (1 : Int32) 60 ∧ vp_in (σ.2.1 23 ((0 : Int32)).toNatClampNeg) 100 ∧ ∀ σ4 : S9, σ4 = sA σ 21 (upd (σ.2.1 21) ((σ.2.1 23 ((0 : Int32)).toNatClampNeg)).toNatClampNeg (σ.2.1 23 ((1 : Int32)).toNatClampNeg)) → vp_in a1 300 ∧ Φ (σ4.2.1 8 (a1).toNatClampNeg) σ4) ∧ (¬ (σ.2.1 2 (a1).toNatClampNeg) = (64 : Int32) → ((σ.2.1 2 (a1).toNatClampNeg) = (65 : Int32) → vp_in a1 300 ∧ wp_X3_openCall (σ.2.1 8 (a1).toNatClampNeg) σ (fun σ5 => vp_in x2 27 ∧ Φ (σ5.2.1 12 (x2).toNatClampNeg) σ5)) ∧ (¬ (σ.2.1 2 (a1).toNatClampNeg) = (65 : Int32) → wp_X3_loop a1 σ (fun r21 σ6 => Φ r21 σ6))))))
theorem dX3_act_0 : decode cX3_act 0 = .ok (.aload_n 0, 1) := by decide +kernel
theorem dX3_act_1 : decode cX3_act 1 = .ok (.getfield 28, 3) := by decide +kernel
theorem dX3_act_4 : decode cX3_act 4 = .ok (.getfield 151, 3) := by decide +kernel
theorem dX3_act_7 : decode cX3_act 7 = .ok (.iload_n 1, 1) := by decide +kernel
theorem dX3_act_8 : decode cX3_act 8 = .ok (.iaload, 1) := by decide +kernel
theorem dX3_act_9 : decode cX3_act 9 = .ok (.istore_n 2, 1) := by decide +kernel
theorem dX3_act_10 : decode cX3_act 10 = .ok (.aload_n 0, 1) := by decide +kernel
theorem dX3_act_11 : decode cX3_act 11 = .ok (.getfield 28, 3) := by decide +kernel
theorem dX3_act_14 : decode cX3_act 14 = .ok (.getfield 82, 3) := by decide +kernel
theorem dX3_act_17 : decode cX3_act 17 = .ok (.iload_n 1, 1) := by decide +kernel
theorem dX3_act_18 : decode cX3_act 18 = .ok (.caload, 1) := by decide +kernel
theorem dX3_act_19 : decode cX3_act 19 = .ok (.lookupswitch 162 #[(33, 107), (61, 49), (63, 156), (64, 74), (65, 133)], 49) := by decide +kernel
theorem dX3_act_68 : decode cX3_act 68 = .ok (.aload_n 0, 1) := by decide +kernel
theorem dX3_act_69 : decode cX3_act 69 = .ok (.getfield 9, 3) := by decide +kernel
theorem dX3_act_72 : decode cX3_act 72 = .ok (.iload_n 2, 1) := by decide +kernel
theorem dX3_act_73 : decode cX3_act 73 = .ok (.aload_n 0, 1) := by decide +kernel
theorem dX3_act_74 : decode cX3_act 74 = .ok (.getfield 24, 3) := by decide +kernel
theorem dX3_act_77 : decode cX3_act 77 = .ok (.getfield 86, 3) := by decide +kernel
theorem dX3_act_80 : decode cX3_act 80 = .ok (.iconst 0, 1) := by decide +kernel
theorem dX3_act_81 : decode cX3_act 81 = .ok (.iaload, 1) := by decide +kernel
theorem dX3_act_82 : decode cX3_act 82 = .ok (.iastore, 1) := by decide +kernel
theorem dX3_act_83 : decode cX3_act 83 = .ok (.aload_n 0, 1) := by decide +kernel
theorem dX3_act_84 : decode cX3_act 84 = .ok (.getfield 28, 3) := by decide +kernel
theorem dX3_act_87 : decode cX3_act 87 = .ok (.getfield 154, 3) := by decide +kernel
theorem dX3_act_90 : decode cX3_act 90 = .ok (.iload_n 1, 1) := by decide +kernel
theorem dX3_act_91 : decode cX3_act 91 = .ok (.iaload, 1) := by decide +kernel
theorem dX3_act_92 : decode cX3_act 92 = .ok (.ireturn, 1) := by decide +kernel
theorem dX3_act_93 : decode cX3_act 93 = .ok (.aload_n 0, 1) := by decide +kernel
theorem dX3_act_94 : decode cX3_act 94 = .ok (.getfield 15, 3) := by decide +kernel
theorem dX3_act_97 : decode cX3_act 97 = .ok (.aload_n 0, 1) := by decide +kernel
theorem dX3_act_98 : decode cX3_act 98 = .ok (.getfield 24, 3) := by decide +kernel
theorem dX3_act_101 : decode cX3_act 101 = .ok (.getfield 86, 3) := by decide +kernel
theorem dX3_act_104 : decode cX3_act 104 = .ok (.iconst 0, 1) := by decide +kernel
theorem dX3_act_105 : decode cX3_act 105 = .ok (.iaload, 1) := by decide +kernel
theorem dX3_act_106 : decode cX3_act 106 = .ok (.aload_n 0, 1) := by decide +kernel
theorem dX3_act_107 : decode cX3_act 107 = .ok (.getfield 24, 3) := by decide +kernel
theorem dX3_act_110 : decode cX3_act 110 = .ok (.getfield 86, 3) := by decide +kernel
theorem dX3_act_113 : decode cX3_act 113 = .ok (.iconst 1, 1) := by decide +kernel
theorem dX3_act_114 : decode cX3_act 114 = .ok (.iaload, 1) := by decide +kernel
theorem dX3_act_115 : decode cX3_act 115 = .ok (.iastore, 1) := by decide +kernel
theorem dX3_act_116 : decode cX3_act 116 = .ok (.aload_n 0, 1) := by decide +kernel
theorem dX3_act_117 : decode cX3_act 117 = .ok (.getfield 28, 3) := by decide +kernel
theorem dX3_act_120 : decode cX3_act 120 = .ok (.getfield 154, 3) := by decide +kernel
theorem dX3_act_123 : decode cX3_act 123 = .ok (.iload_n 1, 1) := by decide +kernel
theorem dX3_act_124 : decode cX3_act 124 = .ok (.iaload, 1) := by decide +kernel
theorem dX3_act_125 : decode cX3_act 125 = .ok (.ireturn, 1) := by decide +kernel
theorem dX3_act_126 : decode cX3_act 126 = .ok (.aload_n 0, 1) := by decide +kernel
theorem dX3_act_127 : decode cX3_act 127 = .ok (.getfield 36, 3) := by decide +kernel
theorem dX3_act_130 : decode cX3_act 130 = .ok (.aload_n 0, 1) := by decide +kernel
theorem dX3_act_131 : decode cX3_act 131 = .ok (.getfield 24, 3) := by decide +kernel
theorem dX3_act_134 : decode cX3_act 134 = .ok (.getfield 86, 3) := by decide +kernel
theorem dX3_act_137 : decode cX3_act 137 = .ok (.iconst 0, 1) := by decide +kernel
theorem dX3_act_138 : decode cX3_act 138 = .ok (.iaload, 1) := by decide +kernel
theorem dX3_act_139 : decode cX3_act 139 = .ok (.invokevirtual 157, 3) := by decide +kernel
theorem dX3_act_142 : decode cX3_act 142 = .ok (.aload_n 0, 1) := by decide +kernel
theorem dX3_act_143 : decode cX3_act 143 = .ok (.getfield 28, 3) := by decide +kernel
theorem dX3_act_146 : decode cX3_act 146 = .ok (.getfield 154, 3) := by decide +kernel
theorem dX3_act_149 : decode cX3_act 149 = .ok (.iload_n 1, 1) := by decide +kernel
theorem dX3_act_150 : decode cX3_act 150 = .ok (.iaload, 1) := by decide +kernel
theorem dX3_act_151 : decode cX3_act 151 = .ok (.ireturn, 1) := by decide +kernel
theorem dX3_act_152 : decode cX3_act 152 = .ok (.aload_n 0, 1) := by decide +kernel
theorem dX3_act_153 : decode cX3_act 153 = .ok (.aload_n 0, 1) := by decide +kernel
theorem dX3_act_154 : decode cX3_act 154 = .ok (.getfield 28, 3) := by decide +kernel
theorem dX3_act_157 : decode cX3_act 157 = .ok (.getfield 154, 3) := by decide +kernel
theorem dX3_act_160 : decode cX3_act 160 = .ok (.iload_n 1, 1) := by decide +kernel
theorem dX3_act_161 : decode cX3_act 161 = .ok (.iaload, 1) := by decide +kernel
theorem dX3_act_162 : decode cX3_act 162 = .ok (.invokevirtual 160, 3) := by decide +kernel
theorem dX3_act_165 : decode cX3_act 165 = .ok (.aload_n 0, 1) := by decide +kernel
theorem dX3_act_166 : decode cX3_act 166 = .ok (.getfield 28, 3) := by decide +kernel
theorem dX3_act_169 : decode cX3_act 169 = .ok (.getfield 55, 3) := by decide +kernel
theorem dX3_act_172 : decode cX3_act 172 = .ok (.iload_n 2, 1) := by decide +kernel
theorem dX3_act_173 : decode cX3_act 173 = .ok (.iaload, 1) := by decide +kernel
theorem dX3_act_174 : decode cX3_act 174 = .ok (.ireturn, 1) := by decide +kernel
theorem dX3_act_175 : decode cX3_act 175 = .ok (.aload_n 0, 1) := by decide +kernel
theorem dX3_act_176 : decode cX3_act 176 = .ok (.iload_n 1, 1) := by decide +kernel
theorem dX3_act_177 : decode cX3_act 177 = .ok (.invokevirtual 163, 3) := by decide +kernel
theorem dX3_act_180 : decode cX3_act 180 = .ok (.ireturn, 1) := by decide +kernel
theorem dX3_act_181 : decode cX3_act 181 = .ok (.aload_n 0, 1) := by decide +kernel
theorem dX3_act_182 : decode cX3_act 182 = .ok (.iload_n 1, 1) := by decide +kernel
theorem dX3_act_183 : decode cX3_act 183 = .ok (.invokevirtual 166, 3) := by decide +kernel
theorem dX3_act_186 : decode cX3_act 186 = .ok (.ireturn, 1) := by decide +kernel
set_option maxRecDepth 20000 in
set_option maxHeartbeats 4000000 in
theorem c_X3_act {G : GG} (hJ : gJ 40 G) (l : Launch) (a1 : Int32) (σ : S9) (Φ : Int32 → S9 → Prop) (hq : wp_X3_act a1 σ Φ) : CI cwl 40 G l yX3_act cX3_act 3 (some .int) rm_X3_act [.ref (gAd G 8), .int a1] σ Φ := by
  refine CI.intro (by decide) (Nat.le_of_ble_eq_true rfl) hJ ?_
  intro p e s m args below meth c ls hE hml hr hlk hw hl
  have hl : lv_has ls 3 [(0, .ref (gAd G 8)), (1, .int a1)] := hl
  unfold wp_X3_act at hq
  refine lv_aload_n hE.1 hE.2.1 dX3_act_0 rfl (lv_at hl 0 rfl) ?_
  refine cgf_X3_28 hE hw dX3_act_1 ?_
  refine cgf_X3_151 hE hw dX3_act_4 ?_
  refine lv_iload_n hE.1 hE.2.1 dX3_act_7 rfl (lv_at hl 1 rfl) ?_
  obtain ⟨hi1, hq⟩ := hq
  refine cal_16 hE hw hi1 dX3_act_8 ?_
  refine lv_topi (fun x2 ex2 => ?_)
  have hq := hq x2 ex2
  refine lv_istore_n (lv' := [(2, .int x2), (0, .ref (gAd G 8)), (1, .int a1)]) hE.1 hE.2.1 dX3_act_9 rfl hl (by decide) rfl (fun ls hl => ?_)
  refine lv_aload_n hE.1 hE.2.1 dX3_act_10 rfl (lv_at hl 1 rfl) ?_
  refine cgf_X3_28 hE hw dX3_act_11 ?_
  refine cgf_X3_82 hE hw dX3_act_14 ?_
  refine lv_iload_n hE.1 hE.2.1 dX3_act_17 rfl (lv_at hl 2 rfl) ?_
  obtain ⟨hi3, hq⟩ := hq
  refine cal_14 hE hw hi3 dX3_act_18 ?_
  by_cases c4 : (σ.2.1 2 (a1).toNatClampNeg) = (33 : Int32)
  · have hq := hq.1 c4
    refine lv_lookup (off := 107) (tgt := 126) hE.1 hE.2.1 dX3_act_19 (by decide) (osw_hit c4 rfl) (by decide) ?_
    refine lv_aload_n hE.1 hE.2.1 dX3_act_126 rfl (lv_at hl 1 rfl) ?_
    refine cgf_X3_36 hE hw dX3_act_127 ?_
    refine lv_aload_n hE.1 hE.2.1 dX3_act_130 rfl (lv_at hl 1 rfl) ?_
    refine cgf_X3_24 hE hw dX3_act_131 ?_
    refine cgf_X3_86_9 hE hw dX3_act_134 ?_
    refine lv_iconst (v := (0 : Int32)) hE.1 hE.2.1 dX3_act_137 (by decide) ?_
    obtain ⟨hi5, hq⟩ := hq
    refine cal_35 hE hw hi5 dX3_act_138 ?_
    refine clVv (rest := []) (As := [.int (σ.2.1 23 ((0 : Int32)).toNatClampNeg)]) hE hml hl.1 hw (c_X5_append hE.2.2.2.2.2 l _ _ _ hq) cu72 cu74 cu75 cu76 cu73 rfl (k := 1) (by decide +kernel) (by decide) (ci := 5) rfl (q0 := 7) rfl rfl rfl (Nat.le_of_ble_eq_true rfl) dX3_act_139 (by decide) (fun σ1 hq H locs hw => ?_)
    refine lv_aload_n hE.1 hE.2.1 dX3_act_142 rfl (lv_at hl 1 rfl) ?_
    refine cgf_X3_28 hE hw dX3_act_143 ?_
    refine cgf_X3_154 hE hw dX3_act_146 ?_
    refine lv_iload_n hE.1 hE.2.1 dX3_act_149 rfl (lv_at hl 2 rfl) ?_
    obtain ⟨hi6, hq⟩ := hq
    refine cal_20 hE hw hi6 dX3_act_150 ?_
    exact rtI hE hr hlk hw hq dX3_act_151
  · have hq := hq.2 c4
    by_cases c7 : (σ.2.1 2 (a1).toNatClampNeg) = (61 : Int32)
    · have hq := hq.1 c7
      refine lv_lookup (off := 49) (tgt := 68) hE.1 hE.2.1 dX3_act_19 (by decide) ((lv_osw c4 rfl).trans (osw_hit c7 rfl)) (by decide) ?_
      refine lv_aload_n hE.1 hE.2.1 dX3_act_68 rfl (lv_at hl 1 rfl) ?_
      refine cgf_X3_9 hE hw dX3_act_69 ?_
      refine lv_iload_n hE.1 hE.2.1 dX3_act_72 rfl (lv_at hl 0 rfl) ?_
      refine lv_aload_n hE.1 hE.2.1 dX3_act_73 rfl (lv_at hl 1 rfl) ?_
      refine cgf_X3_24 hE hw dX3_act_74 ?_
      refine cgf_X3_86_9 hE hw dX3_act_77 ?_
      refine lv_iconst (v := (0 : Int32)) hE.1 hE.2.1 dX3_act_80 (by decide) ?_
      obtain ⟨hi8, hq⟩ := hq
      refine cal_35 hE hw hi8 dX3_act_81 ?_
      obtain ⟨hi9, hq⟩ := hq
      refine cas_32 hE hw hi9 dX3_act_82 (fun σ2 eσ2 H locs hw => ?_)
      have hq := hq σ2 eσ2
      refine lv_aload_n hE.1 hE.2.1 dX3_act_83 rfl (lv_at hl 1 rfl) ?_
      refine cgf_X3_28 hE hw dX3_act_84 ?_
      refine cgf_X3_154 hE hw dX3_act_87 ?_
      refine lv_iload_n hE.1 hE.2.1 dX3_act_90 rfl (lv_at hl 2 rfl) ?_
      obtain ⟨hi10, hq⟩ := hq
      refine cal_20 hE hw hi10 dX3_act_91 ?_
      exact rtI hE hr hlk hw hq dX3_act_92
    · have hq := hq.2 c7
      by_cases c11 : (σ.2.1 2 (a1).toNatClampNeg) = (63 : Int32)
      · have hq := hq.1 c11
        refine lv_lookup (off := 156) (tgt := 175) hE.1 hE.2.1 dX3_act_19 (by decide) ((lv_osw c4 rfl).trans ((lv_osw c7 rfl).trans (osw_hit c11 rfl))) (by decide) ?_
        refine lv_aload_n hE.1 hE.2.1 dX3_act_175 rfl (lv_at hl 1 rfl) ?_
        refine lv_iload_n hE.1 hE.2.1 dX3_act_176 rfl (lv_at hl 2 rfl) ?_
        refine clVi (rest := []) (As := [.int a1]) hE hml hl.1 hw (c_X3_choose hE.2.2.2.2.2 l _ _ _ hq) cu77 cu78 cu79 cu80 cu38 rfl (k := 1) (by decide +kernel) (by decide) (ci := 3) rfl (q0 := 8) rfl rfl rfl (Nat.le_of_ble_eq_true rfl) dX3_act_177 (by decide) (fun r12 σ3 hq H locs hw => ?_)
        exact rtI hE hr hlk hw hq dX3_act_180
      · have hq := hq.2 c11
        by_cases c13 : (σ.2.1 2 (a1).toNatClampNeg) = (64 : Int32)
        · have hq := hq.1 c13
          refine lv_lookup (off := 74) (tgt := 93) hE.1 hE.2.1 dX3_act_19 (by decide) ((lv_osw c4 rfl).trans ((lv_osw c7 rfl).trans ((lv_osw c11 rfl).trans (osw_hit c13 rfl)))) (by decide) ?_
          refine lv_aload_n hE.1 hE.2.1 dX3_act_93 rfl (lv_at hl 1 rfl) ?_
          refine cgf_X3_15 hE hw dX3_act_94 ?_
          refine lv_aload_n hE.1 hE.2.1 dX3_act_97 rfl (lv_at hl 1 rfl) ?_
          refine cgf_X3_24 hE hw dX3_act_98 ?_
          refine cgf_X3_86_9 hE hw dX3_act_101 ?_
          refine lv_iconst (v := (0 : Int32)) hE.1 hE.2.1 dX3_act_104 (by decide) ?_
          obtain ⟨hi14, hq⟩ := hq
          refine cal_35 hE hw hi14 dX3_act_105 ?_
          refine lv_aload_n hE.1 hE.2.1 dX3_act_106 rfl (lv_at hl 1 rfl) ?_
          refine cgf_X3_24 hE hw dX3_act_107 ?_
          refine cgf_X3_86_9 hE hw dX3_act_110 ?_
          refine lv_iconst (v := (1 : Int32)) hE.1 hE.2.1 dX3_act_113 (by decide) ?_
          obtain ⟨hi15, hq⟩ := hq
          refine cal_35 hE hw hi15 dX3_act_114 ?_
          obtain ⟨hi16, hq⟩ := hq
          refine cas_33 hE hw hi16 dX3_act_115 (fun σ4 eσ4 H locs hw => ?_)
          have hq := hq σ4 eσ4
          refine lv_aload_n hE.1 hE.2.1 dX3_act_116 rfl (lv_at hl 1 rfl) ?_
          refine cgf_X3_28 hE hw dX3_act_117 ?_
          refine cgf_X3_154 hE hw dX3_act_120 ?_
          refine lv_iload_n hE.1 hE.2.1 dX3_act_123 rfl (lv_at hl 2 rfl) ?_
          obtain ⟨hi17, hq⟩ := hq
          refine cal_20 hE hw hi17 dX3_act_124 ?_
          exact rtI hE hr hlk hw hq dX3_act_125
        · have hq := hq.2 c13
          by_cases c18 : (σ.2.1 2 (a1).toNatClampNeg) = (65 : Int32)
          · have hq := hq.1 c18
            refine lv_lookup (off := 133) (tgt := 152) hE.1 hE.2.1 dX3_act_19 (by decide) ((lv_osw c4 rfl).trans ((lv_osw c7 rfl).trans ((lv_osw c11 rfl).trans ((lv_osw c13 rfl).trans (osw_hit c18 rfl))))) (by decide) ?_
            refine lv_aload_n hE.1 hE.2.1 dX3_act_152 rfl (lv_at hl 1 rfl) ?_
            refine lv_aload_n hE.1 hE.2.1 dX3_act_153 rfl (lv_at hl 1 rfl) ?_
            refine cgf_X3_28 hE hw dX3_act_154 ?_
            refine cgf_X3_154 hE hw dX3_act_157 ?_
            refine lv_iload_n hE.1 hE.2.1 dX3_act_160 rfl (lv_at hl 2 rfl) ?_
            obtain ⟨hi19, hq⟩ := hq
            refine cal_20 hE hw hi19 dX3_act_161 ?_
            refine clVv (rest := []) (As := [.int (σ.2.1 8 (a1).toNatClampNeg)]) hE hml hl.1 hw (c_X3_openCall hE.2.2.2.2.2 l _ _ _ hq) cu82 cu83 cu84 cu85 cu38 rfl (k := 1) (by decide +kernel) (by decide) (ci := 3) rfl (q0 := 8) rfl rfl rfl (Nat.le_of_ble_eq_true rfl) dX3_act_162 (by decide) (fun σ5 hq H locs hw => ?_)
            refine lv_aload_n hE.1 hE.2.1 dX3_act_165 rfl (lv_at hl 1 rfl) ?_
            refine cgf_X3_28 hE hw dX3_act_166 ?_
            refine cgf_X3_55 hE hw dX3_act_169 ?_
            refine lv_iload_n hE.1 hE.2.1 dX3_act_172 rfl (lv_at hl 0 rfl) ?_
            obtain ⟨hi20, hq⟩ := hq
            refine cal_24 hE hw hi20 dX3_act_173 ?_
            exact rtI hE hr hlk hw hq dX3_act_174
          · have hq := hq.2 c18
            refine lv_lookup (off := 162) (tgt := 181) hE.1 hE.2.1 dX3_act_19 (by decide) ((lv_osw c4 rfl).trans ((lv_osw c7 rfl).trans ((lv_osw c11 rfl).trans ((lv_osw c13 rfl).trans ((lv_osw c18 rfl).trans rfl))))) (by decide) ?_
            refine lv_aload_n hE.1 hE.2.1 dX3_act_181 rfl (lv_at hl 1 rfl) ?_
            refine lv_iload_n hE.1 hE.2.1 dX3_act_182 rfl (lv_at hl 2 rfl) ?_
            refine clVi (rest := []) (As := [.int a1]) hE hml hl.1 hw (c_X3_loop hE.2.2.2.2.2 l _ _ _ hq) cu86 cu87 cu88 cu89 cu38 rfl (k := 1) (by decide +kernel) (by decide) (ci := 3) rfl (q0 := 8) rfl rfl rfl (Nat.le_of_ble_eq_true rfl) dX3_act_183 (by decide) (fun r21 σ6 hq H locs hw => ?_)
            exact rtI hE hr hlk hw hq dX3_act_186
/-! QueueBench$Machine.leaveEndedCalls()V -/
abbrev rm_X3_leaveEndedCalls : Room := { frames := 0, cells := 0, slots := 0, locals := 0 }
def bd_X3_leaveEndedCalls_b0 (K0 : S9 → Prop) (Φ : S9 → Prop)  (σ : S9) : Prop := ((σ.1 19) = (-1 : Int32) → ((σ.1 18) ≤ 0 → Φ σ) ∧ (¬ (σ.1 18) ≤ 0 → ∀ σ1 : S9, σ1 = sF σ 18 ((σ.1 18) - (1 : Int32)) → vp_in (σ1.1 18) 26 ∧ ∀ σ2 : S9, σ2 = sF σ1 19 (σ1.2.1 22 ((σ1.1 18)).toNatClampNeg) → K0 σ2)) ∧ (¬ (σ.1 19) = (-1 : Int32) → Φ σ)
def lp_X3_leaveEndedCalls_b0  (Φ : S9 → Prop) : Nat → S9 → Prop
  | 0 => fun _ => False
  | n + 1 => bd_X3_leaveEndedCalls_b0  (lp_X3_leaveEndedCalls_b0  Φ n) Φ
def wp_X3_leaveEndedCalls  (σ : S9) (Φ : S9 → Prop) : Prop := ∃ n : Nat, lp_X3_leaveEndedCalls_b0  Φ n σ
theorem dX3_leaveEndedCalls_0 : decode cX3_leaveEndedCalls 0 = .ok (.aload_n 0, 1) := by decide +kernel
theorem dX3_leaveEndedCalls_1 : decode cX3_leaveEndedCalls 1 = .ok (.getfield 60, 3) := by decide +kernel
theorem dX3_leaveEndedCalls_4 : decode cX3_leaveEndedCalls 4 = .ok (.iconst (-1), 1) := by decide +kernel
theorem dX3_leaveEndedCalls_5 : decode cX3_leaveEndedCalls 5 = .ok (.if_icmp .ne 36, 3) := by decide +kernel
theorem dX3_leaveEndedCalls_8 : decode cX3_leaveEndedCalls 8 = .ok (.aload_n 0, 1) := by decide +kernel
theorem dX3_leaveEndedCalls_9 : decode cX3_leaveEndedCalls 9 = .ok (.getfield 52, 3) := by decide +kernel
theorem dX3_leaveEndedCalls_12 : decode cX3_leaveEndedCalls 12 = .ok (.ifCond .le 29, 3) := by decide +kernel
theorem dX3_leaveEndedCalls_15 : decode cX3_leaveEndedCalls 15 = .ok (.aload_n 0, 1) := by decide +kernel
theorem dX3_leaveEndedCalls_16 : decode cX3_leaveEndedCalls 16 = .ok (.dup, 1) := by decide +kernel
theorem dX3_leaveEndedCalls_17 : decode cX3_leaveEndedCalls 17 = .ok (.getfield 52, 3) := by decide +kernel
theorem dX3_leaveEndedCalls_20 : decode cX3_leaveEndedCalls 20 = .ok (.iconst 1, 1) := by decide +kernel
theorem dX3_leaveEndedCalls_21 : decode cX3_leaveEndedCalls 21 = .ok (.isub, 1) := by decide +kernel
theorem dX3_leaveEndedCalls_22 : decode cX3_leaveEndedCalls 22 = .ok (.putfield 52, 3) := by decide +kernel
theorem dX3_leaveEndedCalls_25 : decode cX3_leaveEndedCalls 25 = .ok (.aload_n 0, 1) := by decide +kernel
theorem dX3_leaveEndedCalls_26 : decode cX3_leaveEndedCalls 26 = .ok (.aload_n 0, 1) := by decide +kernel
theorem dX3_leaveEndedCalls_27 : decode cX3_leaveEndedCalls 27 = .ok (.getfield 18, 3) := by decide +kernel
theorem dX3_leaveEndedCalls_30 : decode cX3_leaveEndedCalls 30 = .ok (.aload_n 0, 1) := by decide +kernel
theorem dX3_leaveEndedCalls_31 : decode cX3_leaveEndedCalls 31 = .ok (.getfield 52, 3) := by decide +kernel
theorem dX3_leaveEndedCalls_34 : decode cX3_leaveEndedCalls 34 = .ok (.iaload, 1) := by decide +kernel
theorem dX3_leaveEndedCalls_35 : decode cX3_leaveEndedCalls 35 = .ok (.putfield 60, 3) := by decide +kernel
theorem dX3_leaveEndedCalls_38 : decode cX3_leaveEndedCalls 38 = .ok (.goto (-38), 3) := by decide +kernel
theorem dX3_leaveEndedCalls_41 : decode cX3_leaveEndedCalls 41 = .ok (.return_, 1) := by decide +kernel
set_option maxRecDepth 20000 in
set_option maxHeartbeats 4000000 in
theorem tb_X3_leaveEndedCalls_b0 {p : Program} {l : Launch} {e : Env} {s : State} {m : MethodId} {args : Array Value} {below : List Frame} {meth : Method} {c : Code} {G : GG} {Φ : S9 → Prop} {K0 : S9 → Prop} (hE : Ev 40 G p s m args c cX3_leaveEndedCalls RX3) (hml : c.maxLocals = 1) (hr : meth.sig.returnType = none) (hlk : meth.locks = false) (hK0 : ∀  (σ : S9) (H : Heap) (locs : List Loc) (ls : Array Slot), K0  σ → Pic cwl 40 G σ s.heap H locs → lv_has ls 1 [(0, .ref (gAd G 8))] → W p l e rm_X3_leaveEndedCalls s m args below meth c H locs 0 0 (QV cwl 40 G below args s Φ) (F0 m 0 ls []))  {σ : S9} {H : Heap} {locs : List Loc} {ls : Array Slot} (hq : bd_X3_leaveEndedCalls_b0 K0 Φ  σ) (hw : Pic cwl 40 G σ s.heap H locs) (hl : lv_has ls 1 [(0, .ref (gAd G 8))]) : W p l e rm_X3_leaveEndedCalls s m args below meth c H locs 0 0 (QV cwl 40 G below args s Φ) (F0 m 0 ls []) := by
  unfold bd_X3_leaveEndedCalls_b0 at hq
  refine lv_aload_n hE.1 hE.2.1 dX3_leaveEndedCalls_0 rfl (lv_at hl 0 rfl) ?_
  refine cgf_X3_60 hE hw dX3_leaveEndedCalls_1 ?_
  refine lv_iconst (v := (-1 : Int32)) hE.1 hE.2.1 dX3_leaveEndedCalls_4 (by decide) ?_
  refine lv_icmp_ne (tgt := 41) hE.1 hE.2.1 dX3_leaveEndedCalls_5 (by decide) (fun c1 => ?_) (fun c1 => ?_)
  · have hq := hq.2 c1
    exact rtV hE hr hlk hw hq dX3_leaveEndedCalls_41
  · have hq := hq.1 c1
    refine lv_aload_n hE.1 hE.2.1 dX3_leaveEndedCalls_8 rfl (lv_at hl 0 rfl) ?_
    refine cgf_X3_52 hE hw dX3_leaveEndedCalls_9 ?_
    refine lv_if_le (tgt := 41) hE.1 hE.2.1 dX3_leaveEndedCalls_12 (by decide) (fun c2 => ?_) (fun c2 => ?_)
    · have hq := hq.1 c2
      exact rtV hE hr hlk hw hq dX3_leaveEndedCalls_41
    · have hq := hq.2 c2
      refine lv_aload_n hE.1 hE.2.1 dX3_leaveEndedCalls_15 rfl (lv_at hl 0 rfl) ?_
      refine lv_dup hE.1 hE.2.1 dX3_leaveEndedCalls_16 rfl ?_
      refine cgf_X3_52 hE hw dX3_leaveEndedCalls_17 ?_
      refine lv_iconst (v := (1 : Int32)) hE.1 hE.2.1 dX3_leaveEndedCalls_20 (by decide) ?_
      refine lv_isub hE.1 hE.2.1 dX3_leaveEndedCalls_21 ?_
      refine cpf_X3_52 hE hw dX3_leaveEndedCalls_22 (fun σ1 eσ1 H locs hw => ?_)
      have hq := hq σ1 eσ1
      refine lv_aload_n hE.1 hE.2.1 dX3_leaveEndedCalls_25 rfl (lv_at hl 0 rfl) ?_
      refine lv_aload_n hE.1 hE.2.1 dX3_leaveEndedCalls_26 rfl (lv_at hl 0 rfl) ?_
      refine cgf_X3_18 hE hw dX3_leaveEndedCalls_27 ?_
      refine lv_aload_n hE.1 hE.2.1 dX3_leaveEndedCalls_30 rfl (lv_at hl 0 rfl) ?_
      refine cgf_X3_52 hE hw dX3_leaveEndedCalls_31 ?_
      obtain ⟨hi3, hq⟩ := hq
      refine cal_34 hE hw hi3 dX3_leaveEndedCalls_34 ?_
      refine cpf_X3_60 hE hw dX3_leaveEndedCalls_35 (fun σ2 eσ2 H locs hw => ?_)
      have hq := hq σ2 eσ2
      refine lv_goto (tgt := 0) hE.1 hE.2.1 dX3_leaveEndedCalls_38 (by decide) ?_
      exact hK0 _ _ _ _ hq hw (lv_sub hl [0] rfl)
theorem tl_X3_leaveEndedCalls_b0 {p : Program} {l : Launch} {e : Env} {s : State} {m : MethodId} {args : Array Value} {below : List Frame} {meth : Method} {c : Code} {G : GG} {Φ : S9 → Prop}  (hE : Ev 40 G p s m args c cX3_leaveEndedCalls RX3) (hml : c.maxLocals = 1) (hr : meth.sig.returnType = none) (hlk : meth.locks = false)  : ∀ (n : Nat)  (σ : S9) (H : Heap) (locs : List Loc) (ls : Array Slot), lp_X3_leaveEndedCalls_b0  Φ n  σ → Pic cwl 40 G σ s.heap H locs → lv_has ls 1 [(0, .ref (gAd G 8))] → W p l e rm_X3_leaveEndedCalls s m args below meth c H locs 0 0 (QV cwl 40 G below args s Φ) (F0 m 0 ls []) := by
  intro n
  induction n with
  | zero => intro _ _ _ _ hq; exact hq.elim
  | succ n ih => intro _ _ _ _ hq hw hl; exact tb_X3_leaveEndedCalls_b0 hE hml hr hlk  ih hq hw hl
set_option maxRecDepth 20000 in
set_option maxHeartbeats 4000000 in
theorem c_X3_leaveEndedCalls {G : GG} (hJ : gJ 40 G) (l : Launch)  (σ : S9) (Φ : S9 → Prop) (hq : wp_X3_leaveEndedCalls  σ Φ) : CV cwl 40 G l yX3_leaveEndedCalls cX3_leaveEndedCalls 1 rm_X3_leaveEndedCalls [.ref (gAd G 8)] σ Φ := by
  refine CV.intro (by decide) (Nat.le_of_ble_eq_true rfl) hJ ?_
  intro p e s m args below meth c ls hE hml hr hlk hw hl
  have hl : lv_has ls 1 [(0, .ref (gAd G 8))] := hl
  unfold wp_X3_leaveEndedCalls at hq
  obtain ⟨nn, hq⟩ := hq
  exact tl_X3_leaveEndedCalls_b0 hE hml hr hlk  nn  _ _ _ _ hq hw (lv_sub hl [0] rfl)
/-! QueueBench$Machine.doStep()V -/
abbrev rm_X3_doStep : Room := { frames := 5, cells := 0, slots := 0, locals := 107 }
def wp_X3_doStep_b45  (Φ : S9 → Prop)  (σ : S9) : Prop := ((σ.1 20) = 0 → ∀ σ1 : S9, σ1 = sF σ 22 ((σ.1 22) + (σ.1 23)) → wp_X3_act (σ1.1 19) σ1 (fun r2 σ2 => ∀ σ3 : S9, σ3 = sF σ2 19 r2 → wp_X3_leaveEndedCalls σ3 (fun σ4 => Φ σ4))) ∧ (¬ (σ.1 20) = 0 → Φ σ)
def wp_X3_doStep  (σ : S9) (Φ : S9 → Prop) : Prop := wp_X3_workOut (σ.1 19) σ (fun σ1 => ((σ1.1 20) = 0 → vp_in (σ1.1 19) 300 ∧ ((σ1.2.1 2 ((σ1.1 19)).toNatClampNeg) = (64 : Int32) → vp_in (0 : Int32) 60 ∧ wp_X3_lookAtCell (σ1.2.1 23 ((0 : Int32)).toNatClampNeg) σ1 (fun σ2 => wp_X3_doStep_b45  Φ σ2)) ∧ (¬ (σ1.2.1 2 ((σ1.1 19)).toNatClampNeg) = (64 : Int32) → wp_X3_doStep_b45  Φ σ1)) ∧ (¬ (σ1.1 20) = 0 → wp_X3_doStep_b45  Φ σ1))
theorem dX3_doStep_0 : decode cX3_doStep 0 = .ok (.aload_n 0, 1) := by decide +kernel
theorem dX3_doStep_1 : decode cX3_doStep 1 = .ok (.aload_n 0, 1) := by decide +kernel
theorem dX3_doStep_2 : decode cX3_doStep 2 = .ok (.getfield 60, 3) := by decide +kernel
theorem dX3_doStep_5 : decode cX3_doStep 5 = .ok (.invokevirtual 78, 3) := by decide +kernel
theorem dX3_doStep_8 : decode cX3_doStep 8 = .ok (.aload_n 0, 1) := by decide +kernel
theorem dX3_doStep_9 : decode cX3_doStep 9 = .ok (.getfield 63, 3) := by decide +kernel
theorem dX3_doStep_12 : decode cX3_doStep 12 = .ok (.ifCond .ne 33, 3) := by decide +kernel
theorem dX3_doStep_15 : decode cX3_doStep 15 = .ok (.aload_n 0, 1) := by decide +kernel
theorem dX3_doStep_16 : decode cX3_doStep 16 = .ok (.getfield 28, 3) := by decide +kernel
theorem dX3_doStep_19 : decode cX3_doStep 19 = .ok (.getfield 82, 3) := by decide +kernel
theorem dX3_doStep_22 : decode cX3_doStep 22 = .ok (.aload_n 0, 1) := by decide +kernel
theorem dX3_doStep_23 : decode cX3_doStep 23 = .ok (.getfield 60, 3) := by decide +kernel
theorem dX3_doStep_26 : decode cX3_doStep 26 = .ok (.caload, 1) := by decide +kernel
theorem dX3_doStep_27 : decode cX3_doStep 27 = .ok (.bipush 64, 2) := by decide +kernel
theorem dX3_doStep_29 : decode cX3_doStep 29 = .ok (.if_icmp .ne 16, 3) := by decide +kernel
theorem dX3_doStep_32 : decode cX3_doStep 32 = .ok (.aload_n 0, 1) := by decide +kernel
theorem dX3_doStep_33 : decode cX3_doStep 33 = .ok (.aload_n 0, 1) := by decide +kernel
theorem dX3_doStep_34 : decode cX3_doStep 34 = .ok (.getfield 24, 3) := by decide +kernel
theorem dX3_doStep_37 : decode cX3_doStep 37 = .ok (.getfield 86, 3) := by decide +kernel
theorem dX3_doStep_40 : decode cX3_doStep 40 = .ok (.iconst 0, 1) := by decide +kernel
theorem dX3_doStep_41 : decode cX3_doStep 41 = .ok (.iaload, 1) := by decide +kernel
theorem dX3_doStep_42 : decode cX3_doStep 42 = .ok (.invokevirtual 89, 3) := by decide +kernel
theorem dX3_doStep_45 : decode cX3_doStep 45 = .ok (.aload_n 0, 1) := by decide +kernel
theorem dX3_doStep_46 : decode cX3_doStep 46 = .ok (.getfield 63, 3) := by decide +kernel
theorem dX3_doStep_49 : decode cX3_doStep 49 = .ok (.ifCond .ne 32, 3) := by decide +kernel
theorem dX3_doStep_52 : decode cX3_doStep 52 = .ok (.aload_n 0, 1) := by decide +kernel
theorem dX3_doStep_53 : decode cX3_doStep 53 = .ok (.dup, 1) := by decide +kernel
theorem dX3_doStep_54 : decode cX3_doStep 54 = .ok (.getfield 69, 3) := by decide +kernel
theorem dX3_doStep_57 : decode cX3_doStep 57 = .ok (.aload_n 0, 1) := by decide +kernel
theorem dX3_doStep_58 : decode cX3_doStep 58 = .ok (.getfield 92, 3) := by decide +kernel
theorem dX3_doStep_61 : decode cX3_doStep 61 = .ok (.iadd, 1) := by decide +kernel
theorem dX3_doStep_62 : decode cX3_doStep 62 = .ok (.putfield 69, 3) := by decide +kernel
theorem dX3_doStep_65 : decode cX3_doStep 65 = .ok (.aload_n 0, 1) := by decide +kernel
theorem dX3_doStep_66 : decode cX3_doStep 66 = .ok (.aload_n 0, 1) := by decide +kernel
theorem dX3_doStep_67 : decode cX3_doStep 67 = .ok (.aload_n 0, 1) := by decide +kernel
theorem dX3_doStep_68 : decode cX3_doStep 68 = .ok (.getfield 60, 3) := by decide +kernel
theorem dX3_doStep_71 : decode cX3_doStep 71 = .ok (.invokevirtual 95, 3) := by decide +kernel
theorem dX3_doStep_74 : decode cX3_doStep 74 = .ok (.putfield 60, 3) := by decide +kernel
theorem dX3_doStep_77 : decode cX3_doStep 77 = .ok (.aload_n 0, 1) := by decide +kernel
theorem dX3_doStep_78 : decode cX3_doStep 78 = .ok (.invokevirtual 99, 3) := by decide +kernel
theorem dX3_doStep_81 : decode cX3_doStep 81 = .ok (.return_, 1) := by decide +kernel
set_option maxRecDepth 20000 in
set_option maxHeartbeats 4000000 in
theorem tb_X3_doStep_b45 {p : Program} {l : Launch} {e : Env} {s : State} {m : MethodId} {args : Array Value} {below : List Frame} {meth : Method} {c : Code} {G : GG} {Φ : S9 → Prop}  (hE : Ev 40 G p s m args c cX3_doStep RX3) (hml : c.maxLocals = 1) (hr : meth.sig.returnType = none) (hlk : meth.locks = false)   {σ : S9} {H : Heap} {locs : List Loc} {ls : Array Slot} (hq : wp_X3_doStep_b45  Φ  σ) (hw : Pic cwl 40 G σ s.heap H locs) (hl : lv_has ls 1 [(0, .ref (gAd G 8))]) : W p l e rm_X3_doStep s m args below meth c H locs 0 0 (QV cwl 40 G below args s Φ) (F0 m 45 ls []) := by
  unfold wp_X3_doStep_b45 at hq
  refine lv_aload_n hE.1 hE.2.1 dX3_doStep_45 rfl (lv_at hl 0 rfl) ?_
  refine cgf_X3_63 hE hw dX3_doStep_46 ?_
  refine lv_if_ne (tgt := 81) hE.1 hE.2.1 dX3_doStep_49 (by decide) (fun c1 => ?_) (fun c1 => ?_)
  · have hq := hq.2 c1
    exact rtV hE hr hlk hw hq dX3_doStep_81
  · have hq := hq.1 c1
    refine lv_aload_n hE.1 hE.2.1 dX3_doStep_52 rfl (lv_at hl 0 rfl) ?_
    refine lv_dup hE.1 hE.2.1 dX3_doStep_53 rfl ?_
    refine cgf_X3_69 hE hw dX3_doStep_54 ?_
    refine lv_aload_n hE.1 hE.2.1 dX3_doStep_57 rfl (lv_at hl 0 rfl) ?_
    refine cgf_X3_92 hE hw dX3_doStep_58 ?_
    refine lv_iadd hE.1 hE.2.1 dX3_doStep_61 ?_
    refine cpf_X3_69 hE hw dX3_doStep_62 (fun σ1 eσ1 H locs hw => ?_)
    have hq := hq σ1 eσ1
    refine lv_aload_n hE.1 hE.2.1 dX3_doStep_65 rfl (lv_at hl 0 rfl) ?_
    refine lv_aload_n hE.1 hE.2.1 dX3_doStep_66 rfl (lv_at hl 0 rfl) ?_
    refine lv_aload_n hE.1 hE.2.1 dX3_doStep_67 rfl (lv_at hl 0 rfl) ?_
    refine cgf_X3_60 hE hw dX3_doStep_68 ?_
    refine clVi (rest := [.ref (gAd G 8)]) (As := [.int (σ1.1 19)]) hE hml hl.1 hw (c_X3_act hE.2.2.2.2.2 l _ _ _ hq) cu90 cu91 cu92 cu93 cu38 rfl (k := 1) (by decide +kernel) (by decide) (ci := 3) rfl (q0 := 8) rfl rfl rfl (Nat.le_of_ble_eq_true rfl) dX3_doStep_71 (by decide) (fun r2 σ2 hq H locs hw => ?_)
    refine cpf_X3_60 hE hw dX3_doStep_74 (fun σ3 eσ3 H locs hw => ?_)
    have hq := hq σ3 eσ3
    refine lv_aload_n hE.1 hE.2.1 dX3_doStep_77 rfl (lv_at hl 0 rfl) ?_
    refine clVv (rest := []) (As := []) hE hml hl.1 hw (c_X3_leaveEndedCalls hE.2.2.2.2.2 l _ _ hq) cu94 cu95 cu96 cu97 cu38 rfl (k := 0) (by decide +kernel) (by decide) (ci := 3) rfl (q0 := 8) rfl rfl rfl (Nat.le_of_ble_eq_true rfl) dX3_doStep_78 (by decide) (fun σ4 hq H locs hw => ?_)
    exact rtV hE hr hlk hw hq dX3_doStep_81
set_option maxRecDepth 20000 in
set_option maxHeartbeats 4000000 in
theorem c_X3_doStep {G : GG} (hJ : gJ 40 G) (l : Launch)  (σ : S9) (Φ : S9 → Prop) (hq : wp_X3_doStep  σ Φ) : CV cwl 40 G l yX3_doStep cX3_doStep 1 rm_X3_doStep [.ref (gAd G 8)] σ Φ := by
  refine CV.intro (by decide) (Nat.le_of_ble_eq_true rfl) hJ ?_
  intro p e s m args below meth c ls hE hml hr hlk hw hl
  have hl : lv_has ls 1 [(0, .ref (gAd G 8))] := hl
  unfold wp_X3_doStep at hq
  refine lv_aload_n hE.1 hE.2.1 dX3_doStep_0 rfl (lv_at hl 0 rfl) ?_
  refine lv_aload_n hE.1 hE.2.1 dX3_doStep_1 rfl (lv_at hl 0 rfl) ?_
  refine cgf_X3_60 hE hw dX3_doStep_2 ?_
  refine clVv (rest := []) (As := [.int (σ.1 19)]) hE hml hl.1 hw (c_X3_workOut hE.2.2.2.2.2 l _ _ _ hq) cu68 cu69 cu70 cu71 cu38 rfl (k := 1) (by decide +kernel) (by decide) (ci := 3) rfl (q0 := 8) rfl rfl rfl (Nat.le_of_ble_eq_true rfl) dX3_doStep_5 (by decide) (fun σ1 hq H locs hw => ?_)
  refine lv_aload_n hE.1 hE.2.1 dX3_doStep_8 rfl (lv_at hl 0 rfl) ?_
  refine cgf_X3_63 hE hw dX3_doStep_9 ?_
  refine lv_if_ne (tgt := 45) hE.1 hE.2.1 dX3_doStep_12 (by decide) (fun c1 => ?_) (fun c1 => ?_)
  · have hq := hq.2 c1
    exact tb_X3_doStep_b45 hE hml hr hlk  hq hw (lv_sub hl [0] rfl)
  · have hq := hq.1 c1
    refine lv_aload_n hE.1 hE.2.1 dX3_doStep_15 rfl (lv_at hl 0 rfl) ?_
    refine cgf_X3_28 hE hw dX3_doStep_16 ?_
    refine cgf_X3_82 hE hw dX3_doStep_19 ?_
    refine lv_aload_n hE.1 hE.2.1 dX3_doStep_22 rfl (lv_at hl 0 rfl) ?_
    refine cgf_X3_60 hE hw dX3_doStep_23 ?_
    obtain ⟨hi2, hq⟩ := hq
    refine cal_14 hE hw hi2 dX3_doStep_26 ?_
    refine lv_bipush (v := (64 : Int32)) hE.1 hE.2.1 dX3_doStep_27 (by decide) ?_
    refine lv_icmp_ne (tgt := 45) hE.1 hE.2.1 dX3_doStep_29 (by decide) (fun c3 => ?_) (fun c3 => ?_)
    · have hq := hq.2 c3
      exact tb_X3_doStep_b45 hE hml hr hlk  hq hw (lv_sub hl [0] rfl)
    · have hq := hq.1 c3
      refine lv_aload_n hE.1 hE.2.1 dX3_doStep_32 rfl (lv_at hl 0 rfl) ?_
      refine lv_aload_n hE.1 hE.2.1 dX3_doStep_33 rfl (lv_at hl 0 rfl) ?_
      refine cgf_X3_24 hE hw dX3_doStep_34 ?_
      refine cgf_X3_86_9 hE hw dX3_doStep_37 ?_
      refine lv_iconst (v := (0 : Int32)) hE.1 hE.2.1 dX3_doStep_40 (by decide) ?_
      obtain ⟨hi4, hq⟩ := hq
      refine cal_35 hE hw hi4 dX3_doStep_41 ?_
      refine clVv (rest := []) (As := [.int (σ1.2.1 23 ((0 : Int32)).toNatClampNeg)]) hE hml hl.1 hw (c_X3_lookAtCell hE.2.2.2.2.2 l _ _ _ hq) cu49 cu50 cu51 cu52 cu38 rfl (k := 1) (by decide +kernel) (by decide) (ci := 3) rfl (q0 := 8) rfl rfl rfl (Nat.le_of_ble_eq_true rfl) dX3_doStep_42 (by decide) (fun σ2 hq H locs hw => ?_)
      exact tb_X3_doStep_b45 hE hml hr hlk  hq hw (lv_sub hl [0] rfl)
/-! QueueBench$Machine.doSteps(I)I -/
abbrev rm_X3_doSteps : Room := { frames := 6, cells := 0, slots := 0, locals := 127 }
def bd_X3_doSteps_b2 (K2 : Int32 → Int32 → S9 → Prop) (Φ : Int32 → S9 → Prop) (a1 : Int32) (a2 : Int32) (σ : S9) : Prop := (a1 ≤ a2 → ∀ σ1 : S9, σ1 = sF σ 21 ((σ.1 21) + a2) → Φ a2 σ1) ∧ (¬ a1 ≤ a2 → ((σ.1 19) = (-1 : Int32) → ∀ σ2 : S9, σ2 = sF σ 21 ((σ.1 21) + a2) → Φ a2 σ2) ∧ (¬ (σ.1 19) = (-1 : Int32) → ((σ.1 20) = 0 → wp_X3_doStep σ (fun σ4 => ((σ4.1 20) = 0 → ∀ x5 : Int32, x5 = a2 + 1 → K2 a1 x5 σ4) ∧ (¬ (σ4.1 20) = 0 → K2 a1 a2 σ4))) ∧ (¬ (σ.1 20) = 0 → ∀ σ3 : S9, σ3 = sF σ 21 ((σ.1 21) + a2) → Φ a2 σ3)))
def lp_X3_doSteps_b2  (Φ : Int32 → S9 → Prop) : Nat → Int32 → Int32 → S9 → Prop
  | 0 => fun _ _ _ => False
  | n + 1 => bd_X3_doSteps_b2  (lp_X3_doSteps_b2  Φ n) Φ
def wp_X3_doSteps (a1 : Int32) (σ : S9) (Φ : Int32 → S9 → Prop) : Prop := ∀ x1 : Int32, x1 = (0 : Int32) → ∃ n : Nat, lp_X3_doSteps_b2  Φ n a1 x1 σ
theorem dX3_doSteps_0 : decode cX3_doSteps 0 = .ok (.iconst 0, 1) := by decide +kernel
theorem dX3_doSteps_1 : decode cX3_doSteps 1 = .ok (.istore_n 2, 1) := by decide +kernel
theorem dX3_doSteps_2 : decode cX3_doSteps 2 = .ok (.iload_n 2, 1) := by decide +kernel
theorem dX3_doSteps_3 : decode cX3_doSteps 3 = .ok (.iload_n 1, 1) := by decide +kernel
theorem dX3_doSteps_4 : decode cX3_doSteps 4 = .ok (.if_icmp .ge 35, 3) := by decide +kernel
theorem dX3_doSteps_7 : decode cX3_doSteps 7 = .ok (.aload_n 0, 1) := by decide +kernel
theorem dX3_doSteps_8 : decode cX3_doSteps 8 = .ok (.getfield 60, 3) := by decide +kernel
theorem dX3_doSteps_11 : decode cX3_doSteps 11 = .ok (.iconst (-1), 1) := by decide +kernel
theorem dX3_doSteps_12 : decode cX3_doSteps 12 = .ok (.if_icmp .eq 27, 3) := by decide +kernel
theorem dX3_doSteps_15 : decode cX3_doSteps 15 = .ok (.aload_n 0, 1) := by decide +kernel
theorem dX3_doSteps_16 : decode cX3_doSteps 16 = .ok (.getfield 63, 3) := by decide +kernel
theorem dX3_doSteps_19 : decode cX3_doSteps 19 = .ok (.ifCond .ne 20, 3) := by decide +kernel
theorem dX3_doSteps_22 : decode cX3_doSteps 22 = .ok (.aload_n 0, 1) := by decide +kernel
theorem dX3_doSteps_23 : decode cX3_doSteps 23 = .ok (.invokevirtual 75, 3) := by decide +kernel
theorem dX3_doSteps_26 : decode cX3_doSteps 26 = .ok (.aload_n 0, 1) := by decide +kernel
theorem dX3_doSteps_27 : decode cX3_doSteps 27 = .ok (.getfield 63, 3) := by decide +kernel
theorem dX3_doSteps_30 : decode cX3_doSteps 30 = .ok (.ifCond .ne (-28), 3) := by decide +kernel
theorem dX3_doSteps_33 : decode cX3_doSteps 33 = .ok (.iinc 2 1, 3) := by decide +kernel
theorem dX3_doSteps_36 : decode cX3_doSteps 36 = .ok (.goto (-34), 3) := by decide +kernel
theorem dX3_doSteps_39 : decode cX3_doSteps 39 = .ok (.aload_n 0, 1) := by decide +kernel
theorem dX3_doSteps_40 : decode cX3_doSteps 40 = .ok (.dup, 1) := by decide +kernel
theorem dX3_doSteps_41 : decode cX3_doSteps 41 = .ok (.getfield 66, 3) := by decide +kernel
theorem dX3_doSteps_44 : decode cX3_doSteps 44 = .ok (.iload_n 2, 1) := by decide +kernel
theorem dX3_doSteps_45 : decode cX3_doSteps 45 = .ok (.iadd, 1) := by decide +kernel
theorem dX3_doSteps_46 : decode cX3_doSteps 46 = .ok (.putfield 66, 3) := by decide +kernel
theorem dX3_doSteps_49 : decode cX3_doSteps 49 = .ok (.iload_n 2, 1) := by decide +kernel
theorem dX3_doSteps_50 : decode cX3_doSteps 50 = .ok (.ireturn, 1) := by decide +kernel
set_option maxRecDepth 20000 in
set_option maxHeartbeats 4000000 in
theorem tb_X3_doSteps_b2 {p : Program} {l : Launch} {e : Env} {s : State} {m : MethodId} {args : Array Value} {below : List Frame} {meth : Method} {c : Code} {G : GG} {Φ : Int32 → S9 → Prop} {K2 : Int32 → Int32 → S9 → Prop} (hE : Ev 40 G p s m args c cX3_doSteps RX3) (hml : c.maxLocals = 3) (hr : meth.sig.returnType = (some .int)) (hlk : meth.locks = false) (hK2 : ∀ (a1 : Int32) (a2 : Int32) (σ : S9) (H : Heap) (locs : List Loc) (ls : Array Slot), K2 a1 a2 σ → Pic cwl 40 G σ s.heap H locs → lv_has ls 3 [(0, .ref (gAd G 8)), (1, .int a1), (2, .int a2)] → W p l e rm_X3_doSteps s m args below meth c H locs 0 0 (QI cwl 40 G below args s Φ) (F0 m 2 ls [])) {a1 : Int32} {a2 : Int32} {σ : S9} {H : Heap} {locs : List Loc} {ls : Array Slot} (hq : bd_X3_doSteps_b2 K2 Φ a1 a2 σ) (hw : Pic cwl 40 G σ s.heap H locs) (hl : lv_has ls 3 [(0, .ref (gAd G 8)), (1, .int a1), (2, .int a2)]) : W p l e rm_X3_doSteps s m args below meth c H locs 0 0 (QI cwl 40 G below args s Φ) (F0 m 2 ls []) := by
  unfold bd_X3_doSteps_b2 at hq
  refine lv_iload_n hE.1 hE.2.1 dX3_doSteps_2 rfl (lv_at hl 2 rfl) ?_
  refine lv_iload_n hE.1 hE.2.1 dX3_doSteps_3 rfl (lv_at hl 1 rfl) ?_
  refine lv_icmp_ge (tgt := 39) hE.1 hE.2.1 dX3_doSteps_4 (by decide) (fun c1 => ?_) (fun c1 => ?_)
  · have hq := hq.1 c1
    refine lv_aload_n hE.1 hE.2.1 dX3_doSteps_39 rfl (lv_at hl 0 rfl) ?_
    refine lv_dup hE.1 hE.2.1 dX3_doSteps_40 rfl ?_
    refine cgf_X3_66 hE hw dX3_doSteps_41 ?_
    refine lv_iload_n hE.1 hE.2.1 dX3_doSteps_44 rfl (lv_at hl 2 rfl) ?_
    refine lv_iadd hE.1 hE.2.1 dX3_doSteps_45 ?_
    refine cpf_X3_66 hE hw dX3_doSteps_46 (fun σ1 eσ1 H locs hw => ?_)
    have hq := hq σ1 eσ1
    refine lv_iload_n hE.1 hE.2.1 dX3_doSteps_49 rfl (lv_at hl 2 rfl) ?_
    exact rtI hE hr hlk hw hq dX3_doSteps_50
  · have hq := hq.2 c1
    refine lv_aload_n hE.1 hE.2.1 dX3_doSteps_7 rfl (lv_at hl 0 rfl) ?_
    refine cgf_X3_60 hE hw dX3_doSteps_8 ?_
    refine lv_iconst (v := (-1 : Int32)) hE.1 hE.2.1 dX3_doSteps_11 (by decide) ?_
    refine lv_icmp_eq (tgt := 39) hE.1 hE.2.1 dX3_doSteps_12 (by decide) (fun c2 => ?_) (fun c2 => ?_)
    · have hq := hq.1 c2
      refine lv_aload_n hE.1 hE.2.1 dX3_doSteps_39 rfl (lv_at hl 0 rfl) ?_
      refine lv_dup hE.1 hE.2.1 dX3_doSteps_40 rfl ?_
      refine cgf_X3_66 hE hw dX3_doSteps_41 ?_
      refine lv_iload_n hE.1 hE.2.1 dX3_doSteps_44 rfl (lv_at hl 2 rfl) ?_
      refine lv_iadd hE.1 hE.2.1 dX3_doSteps_45 ?_
      refine cpf_X3_66 hE hw dX3_doSteps_46 (fun σ2 eσ2 H locs hw => ?_)
      have hq := hq σ2 eσ2
      refine lv_iload_n hE.1 hE.2.1 dX3_doSteps_49 rfl (lv_at hl 2 rfl) ?_
      exact rtI hE hr hlk hw hq dX3_doSteps_50
    · have hq := hq.2 c2
      refine lv_aload_n hE.1 hE.2.1 dX3_doSteps_15 rfl (lv_at hl 0 rfl) ?_
      refine cgf_X3_63 hE hw dX3_doSteps_16 ?_
      refine lv_if_ne (tgt := 39) hE.1 hE.2.1 dX3_doSteps_19 (by decide) (fun c3 => ?_) (fun c3 => ?_)
      · have hq := hq.2 c3
        refine lv_aload_n hE.1 hE.2.1 dX3_doSteps_39 rfl (lv_at hl 0 rfl) ?_
        refine lv_dup hE.1 hE.2.1 dX3_doSteps_40 rfl ?_
        refine cgf_X3_66 hE hw dX3_doSteps_41 ?_
        refine lv_iload_n hE.1 hE.2.1 dX3_doSteps_44 rfl (lv_at hl 2 rfl) ?_
        refine lv_iadd hE.1 hE.2.1 dX3_doSteps_45 ?_
        refine cpf_X3_66 hE hw dX3_doSteps_46 (fun σ3 eσ3 H locs hw => ?_)
        have hq := hq σ3 eσ3
        refine lv_iload_n hE.1 hE.2.1 dX3_doSteps_49 rfl (lv_at hl 2 rfl) ?_
        exact rtI hE hr hlk hw hq dX3_doSteps_50
      · have hq := hq.1 c3
        refine lv_aload_n hE.1 hE.2.1 dX3_doSteps_22 rfl (lv_at hl 0 rfl) ?_
        refine clVv (rest := []) (As := []) hE hml hl.1 hw (c_X3_doStep hE.2.2.2.2.2 l _ _ hq) cu98 cu99 cu100 cu101 cu38 rfl (k := 0) (by decide +kernel) (by decide) (ci := 3) rfl (q0 := 8) rfl rfl rfl (Nat.le_of_ble_eq_true rfl) dX3_doSteps_23 (by decide) (fun σ4 hq H locs hw => ?_)
        refine lv_aload_n hE.1 hE.2.1 dX3_doSteps_26 rfl (lv_at hl 0 rfl) ?_
        refine cgf_X3_63 hE hw dX3_doSteps_27 ?_
        refine lv_if_ne (tgt := 2) hE.1 hE.2.1 dX3_doSteps_30 (by decide) (fun c4 => ?_) (fun c4 => ?_)
        · have hq := hq.2 c4
          exact hK2 _ _ _ _ _ _ hq hw (lv_sub hl [0, 1, 2] rfl)
        · have hq := hq.1 c4
          obtain ⟨x5, ex5⟩ : ∃ y : Int32, y = a2 + 1 := ⟨_, rfl⟩
          have hq := hq x5 ex5
          refine lv_iinc (v := x5) (lv' := [(2, .int x5), (0, .ref (gAd G 8)), (1, .int a1)]) hE.1 hE.2.1 dX3_doSteps_33 hl (k := 2) rfl (by rw [ex5]; rfl) (by decide) rfl (fun ls hl => ?_)
          refine lv_goto (tgt := 2) hE.1 hE.2.1 dX3_doSteps_36 (by decide) ?_
          exact hK2 _ _ _ _ _ _ hq hw (lv_sub hl [1, 2, 0] rfl)
theorem tl_X3_doSteps_b2 {p : Program} {l : Launch} {e : Env} {s : State} {m : MethodId} {args : Array Value} {below : List Frame} {meth : Method} {c : Code} {G : GG} {Φ : Int32 → S9 → Prop}  (hE : Ev 40 G p s m args c cX3_doSteps RX3) (hml : c.maxLocals = 3) (hr : meth.sig.returnType = (some .int)) (hlk : meth.locks = false)  : ∀ (n : Nat) (a1 : Int32) (a2 : Int32) (σ : S9) (H : Heap) (locs : List Loc) (ls : Array Slot), lp_X3_doSteps_b2  Φ n a1 a2 σ → Pic cwl 40 G σ s.heap H locs → lv_has ls 3 [(0, .ref (gAd G 8)), (1, .int a1), (2, .int a2)] → W p l e rm_X3_doSteps s m args below meth c H locs 0 0 (QI cwl 40 G below args s Φ) (F0 m 2 ls []) := by
  intro n
  induction n with
  | zero => intro _ _ _ _ _ _ hq; exact hq.elim
  | succ n ih => intro _ _ _ _ _ _ hq hw hl; exact tb_X3_doSteps_b2 hE hml hr hlk  ih hq hw hl
set_option maxRecDepth 20000 in
set_option maxHeartbeats 4000000 in
theorem c_X3_doSteps {G : GG} (hJ : gJ 40 G) (l : Launch) (a1 : Int32) (σ : S9) (Φ : Int32 → S9 → Prop) (hq : wp_X3_doSteps a1 σ Φ) : CI cwl 40 G l yX3_doSteps cX3_doSteps 3 (some .int) rm_X3_doSteps [.ref (gAd G 8), .int a1] σ Φ := by
  refine CI.intro (by decide) (Nat.le_of_ble_eq_true rfl) hJ ?_
  intro p e s m args below meth c ls hE hml hr hlk hw hl
  have hl : lv_has ls 3 [(0, .ref (gAd G 8)), (1, .int a1)] := hl
  unfold wp_X3_doSteps at hq
  refine lv_iconst (v := (0 : Int32)) hE.1 hE.2.1 dX3_doSteps_0 (by decide) ?_
  refine lv_topi (fun x1 ex1 => ?_)
  have hq := hq x1 ex1
  refine lv_istore_n (lv' := [(2, .int x1), (0, .ref (gAd G 8)), (1, .int a1)]) hE.1 hE.2.1 dX3_doSteps_1 rfl hl (by decide) rfl (fun ls hl => ?_)
  obtain ⟨nn, hq⟩ := hq
  exact tl_X3_doSteps_b2 hE hml hr hlk  nn _ _ _ _ _ _ hq hw (lv_sub hl [1, 2, 0] rfl)
/-! QueueBench$Operands.pop()I -/
abbrev rm_X4_pop_11 : Room := { frames := 0, cells := 0, slots := 0, locals := 0 }
def wp_X4_pop_11  (σ : S9) (Φ : Int32 → S9 → Prop) : Prop := ((σ.1 26) = 0 → Φ (0 : Int32) σ) ∧ (¬ (σ.1 26) = 0 → ∀ σ1 : S9, σ1 = sF σ 26 ((σ.1 26) - (1 : Int32)) → vp_in (σ1.1 26) 60 ∧ Φ (σ1.2.1 27 ((σ1.1 26)).toNatClampNeg) σ1)
set_option maxRecDepth 20000 in
set_option maxHeartbeats 4000000 in
theorem c_X4_pop_11 {G : GG} (hJ : gJ 40 G) (l : Launch)  (σ : S9) (Φ : Int32 → S9 → Prop) (hq : wp_X4_pop_11  σ Φ) : CI cwl 40 G l yX4_pop cX4_pop 1 (some .int) rm_X4_pop_11 [.ref (gAd G 11)] σ Φ := by
  refine CI.intro (by decide) (Nat.le_of_ble_eq_true rfl) hJ ?_
  intro p e s m args below meth c ls hE hml hr hlk hw hl
  have hl : lv_has ls 1 [(0, .ref (gAd G 11))] := hl
  unfold wp_X4_pop_11 at hq
  refine lv_aload_n hE.1 hE.2.1 dX4_pop_0 rfl (lv_at hl 0 rfl) ?_
  refine cgf_X4_15_11 hE hw dX4_pop_1 ?_
  refine lv_if_ne (tgt := 9) hE.1 hE.2.1 dX4_pop_4 (by decide) (fun c1 => ?_) (fun c1 => ?_)
  · have hq := hq.2 c1
    refine lv_aload_n hE.1 hE.2.1 dX4_pop_9 rfl (lv_at hl 0 rfl) ?_
    refine lv_dup hE.1 hE.2.1 dX4_pop_10 rfl ?_
    refine cgf_X4_15_11 hE hw dX4_pop_11 ?_
    refine lv_iconst (v := (1 : Int32)) hE.1 hE.2.1 dX4_pop_14 (by decide) ?_
    refine lv_isub hE.1 hE.2.1 dX4_pop_15 ?_
    refine cpf_X4_15_11 hE hw dX4_pop_16 (fun σ1 eσ1 H locs hw => ?_)
    have hq := hq σ1 eσ1
    refine lv_aload_n hE.1 hE.2.1 dX4_pop_19 rfl (lv_at hl 0 rfl) ?_
    refine cgf_X4_9_11 hE hw dX4_pop_20 ?_
    refine lv_aload_n hE.1 hE.2.1 dX4_pop_23 rfl (lv_at hl 0 rfl) ?_
    refine cgf_X4_15_11 hE hw dX4_pop_24 ?_
    obtain ⟨hi2, hq⟩ := hq
    refine cal_39 hE hw hi2 dX4_pop_27 ?_
    exact rtI hE hr hlk hw hq dX4_pop_28
  · have hq := hq.1 c1
    refine lv_iconst (v := (0 : Int32)) hE.1 hE.2.1 dX4_pop_7 (by decide) ?_
    exact rtI hE hr hlk hw hq dX4_pop_8
/-! QueueBench$TermTable.newTerm(CII)I -/
abbrev rm_X7_newTerm : Room := { frames := 0, cells := 0, slots := 0, locals := 0 }
def wp_X7_newTerm (a1 : Int32) (a2 : Int32) (a3 : Int32) (σ : S9) (Φ : Int32 → S9 → Prop) : Prop := ∀ x1 : Int32, x1 = (σ.1 25) → ((120 : Int32) ≤ x1 → Φ x1 σ) ∧ (¬ (120 : Int32) ≤ x1 → vp_in x1 120 ∧ ∀ σ1 : S9, σ1 = sA σ 24 (upd (σ.2.1 24) (x1).toNatClampNeg (vp_nar .char a1)) → vp_in x1 120 ∧ ∀ σ2 : S9, σ2 = sA σ1 25 (upd (σ1.2.1 25) (x1).toNatClampNeg a2) → vp_in x1 120 ∧ ∀ σ3 : S9, σ3 = sA σ2 26 (upd (σ2.2.1 26) (x1).toNatClampNeg a3) → ∀ σ4 : S9, σ4 = sF σ3 25 ((σ3.1 25) + (1 : Int32)) → Φ x1 σ4)
theorem dX7_newTerm_0 : decode cX7_newTerm 0 = .ok (.aload_n 0, 1) := by decide +kernel
theorem dX7_newTerm_1 : decode cX7_newTerm 1 = .ok (.getfield 29, 3) := by decide +kernel
theorem dX7_newTerm_4 : decode cX7_newTerm 4 = .ok (.istore 4, 2) := by decide +kernel
theorem dX7_newTerm_6 : decode cX7_newTerm 6 = .ok (.iload 4, 2) := by decide +kernel
theorem dX7_newTerm_8 : decode cX7_newTerm 8 = .ok (.bipush 120, 2) := by decide +kernel
theorem dX7_newTerm_10 : decode cX7_newTerm 10 = .ok (.if_icmp .ge 37, 3) := by decide +kernel
theorem dX7_newTerm_13 : decode cX7_newTerm 13 = .ok (.aload_n 0, 1) := by decide +kernel
theorem dX7_newTerm_14 : decode cX7_newTerm 14 = .ok (.getfield 11, 3) := by decide +kernel
theorem dX7_newTerm_17 : decode cX7_newTerm 17 = .ok (.iload 4, 2) := by decide +kernel
theorem dX7_newTerm_19 : decode cX7_newTerm 19 = .ok (.iload_n 1, 1) := by decide +kernel
theorem dX7_newTerm_20 : decode cX7_newTerm 20 = .ok (.castore, 1) := by decide +kernel
theorem dX7_newTerm_21 : decode cX7_newTerm 21 = .ok (.aload_n 0, 1) := by decide +kernel
theorem dX7_newTerm_22 : decode cX7_newTerm 22 = .ok (.getfield 15, 3) := by decide +kernel
theorem dX7_newTerm_25 : decode cX7_newTerm 25 = .ok (.iload 4, 2) := by decide +kernel
theorem dX7_newTerm_27 : decode cX7_newTerm 27 = .ok (.iload_n 2, 1) := by decide +kernel
theorem dX7_newTerm_28 : decode cX7_newTerm 28 = .ok (.iastore, 1) := by decide +kernel
theorem dX7_newTerm_29 : decode cX7_newTerm 29 = .ok (.aload_n 0, 1) := by decide +kernel
theorem dX7_newTerm_30 : decode cX7_newTerm 30 = .ok (.getfield 19, 3) := by decide +kernel
theorem dX7_newTerm_33 : decode cX7_newTerm 33 = .ok (.iload 4, 2) := by decide +kernel
theorem dX7_newTerm_35 : decode cX7_newTerm 35 = .ok (.iload_n 3, 1) := by decide +kernel
theorem dX7_newTerm_36 : decode cX7_newTerm 36 = .ok (.iastore, 1) := by decide +kernel
theorem dX7_newTerm_37 : decode cX7_newTerm 37 = .ok (.aload_n 0, 1) := by decide +kernel
theorem dX7_newTerm_38 : decode cX7_newTerm 38 = .ok (.dup, 1) := by decide +kernel
theorem dX7_newTerm_39 : decode cX7_newTerm 39 = .ok (.getfield 29, 3) := by decide +kernel
theorem dX7_newTerm_42 : decode cX7_newTerm 42 = .ok (.iconst 1, 1) := by decide +kernel
theorem dX7_newTerm_43 : decode cX7_newTerm 43 = .ok (.iadd, 1) := by decide +kernel
theorem dX7_newTerm_44 : decode cX7_newTerm 44 = .ok (.putfield 29, 3) := by decide +kernel
theorem dX7_newTerm_47 : decode cX7_newTerm 47 = .ok (.iload 4, 2) := by decide +kernel
theorem dX7_newTerm_49 : decode cX7_newTerm 49 = .ok (.ireturn, 1) := by decide +kernel
set_option maxRecDepth 20000 in
set_option maxHeartbeats 4000000 in
theorem c_X7_newTerm {G : GG} (hJ : gJ 40 G) (l : Launch) (a1 : Int32) (a2 : Int32) (a3 : Int32) (σ : S9) (Φ : Int32 → S9 → Prop) (hq : wp_X7_newTerm a1 a2 a3 σ Φ) : CI cwl 40 G l yX7_newTerm cX7_newTerm 5 (some .int) rm_X7_newTerm [.ref (gAd G 10), .int a1, .int a2, .int a3] σ Φ := by
  refine CI.intro (by decide) (Nat.le_of_ble_eq_true rfl) hJ ?_
  intro p e s m args below meth c ls hE hml hr hlk hw hl
  have hl : lv_has ls 5 [(0, .ref (gAd G 10)), (1, .int a1), (2, .int a2), (3, .int a3)] := hl
  unfold wp_X7_newTerm at hq
  refine lv_aload_n hE.1 hE.2.1 dX7_newTerm_0 rfl (lv_at hl 0 rfl) ?_
  refine cgf_X7_29 hE hw dX7_newTerm_1 ?_
  refine lv_topi (fun x1 ex1 => ?_)
  have hq := hq x1 ex1
  refine lv_istore (lv' := [(4, .int x1), (0, .ref (gAd G 10)), (1, .int a1), (2, .int a2), (3, .int a3)]) hE.1 hE.2.1 dX7_newTerm_4 hl (by decide) rfl (fun ls hl => ?_)
  refine lv_iload hE.1 hE.2.1 dX7_newTerm_6 (lv_at hl 0 rfl) ?_
  refine lv_bipush (v := (120 : Int32)) hE.1 hE.2.1 dX7_newTerm_8 (by decide) ?_
  refine lv_icmp_ge (tgt := 47) hE.1 hE.2.1 dX7_newTerm_10 (by decide) (fun c2 => ?_) (fun c2 => ?_)
  · have hq := hq.1 c2
    refine lv_iload hE.1 hE.2.1 dX7_newTerm_47 (lv_at hl 0 rfl) ?_
    exact rtI hE hr hlk hw hq dX7_newTerm_49
  · have hq := hq.2 c2
    refine lv_aload_n hE.1 hE.2.1 dX7_newTerm_13 rfl (lv_at hl 1 rfl) ?_
    refine cgf_X7_11 hE hw dX7_newTerm_14 ?_
    refine lv_iload hE.1 hE.2.1 dX7_newTerm_17 (lv_at hl 0 rfl) ?_
    refine lv_iload_n hE.1 hE.2.1 dX7_newTerm_19 rfl (lv_at hl 2 rfl) ?_
    obtain ⟨hi3, hq⟩ := hq
    refine cas_36 hE hw hi3 dX7_newTerm_20 (fun σ1 eσ1 H locs hw => ?_)
    have hq := hq σ1 eσ1
    refine lv_aload_n hE.1 hE.2.1 dX7_newTerm_21 rfl (lv_at hl 1 rfl) ?_
    refine cgf_X7_15 hE hw dX7_newTerm_22 ?_
    refine lv_iload hE.1 hE.2.1 dX7_newTerm_25 (lv_at hl 0 rfl) ?_
    refine lv_iload_n hE.1 hE.2.1 dX7_newTerm_27 rfl (lv_at hl 3 rfl) ?_
    obtain ⟨hi4, hq⟩ := hq
    refine cas_37 hE hw hi4 dX7_newTerm_28 (fun σ2 eσ2 H locs hw => ?_)
    have hq := hq σ2 eσ2
    refine lv_aload_n hE.1 hE.2.1 dX7_newTerm_29 rfl (lv_at hl 1 rfl) ?_
    refine cgf_X7_19 hE hw dX7_newTerm_30 ?_
    refine lv_iload hE.1 hE.2.1 dX7_newTerm_33 (lv_at hl 0 rfl) ?_
    refine lv_iload_n hE.1 hE.2.1 dX7_newTerm_35 rfl (lv_at hl 4 rfl) ?_
    obtain ⟨hi5, hq⟩ := hq
    refine cas_38 hE hw hi5 dX7_newTerm_36 (fun σ3 eσ3 H locs hw => ?_)
    have hq := hq σ3 eσ3
    refine lv_aload_n hE.1 hE.2.1 dX7_newTerm_37 rfl (lv_at hl 1 rfl) ?_
    refine lv_dup hE.1 hE.2.1 dX7_newTerm_38 rfl ?_
    refine cgf_X7_29 hE hw dX7_newTerm_39 ?_
    refine lv_iconst (v := (1 : Int32)) hE.1 hE.2.1 dX7_newTerm_42 (by decide) ?_
    refine lv_iadd hE.1 hE.2.1 dX7_newTerm_43 ?_
    refine cpf_X7_29 hE hw dX7_newTerm_44 (fun σ4 eσ4 H locs hw => ?_)
    have hq := hq σ4 eσ4
    refine lv_iload hE.1 hE.2.1 dX7_newTerm_47 (lv_at hl 0 rfl) ?_
    exact rtI hE hr hlk hw hq dX7_newTerm_49
/-! QueueBench$TermTable.termOf(CII)I -/
abbrev rm_X7_termOf : Room := { frames := 1, cells := 0, slots := 0, locals := 24 }
def bd_X7_termOf_b3 (K3 : Int32 → Int32 → Int32 → Int32 → S9 → Prop) (Φ : Int32 → S9 → Prop) (a1 : Int32) (a2 : Int32) (a3 : Int32) (a4 : Int32) (σ : S9) : Prop := ((σ.1 25) ≤ a4 → wp_X7_newTerm a1 a2 a3 σ (fun r2 σ1 => Φ r2 σ1)) ∧ (¬ (σ.1 25) ≤ a4 → vp_in a4 120 ∧ ((σ.2.1 24 (a4).toNatClampNeg) = a1 → vp_in a4 120 ∧ ((σ.2.1 25 (a4).toNatClampNeg) = a2 → vp_in a4 120 ∧ ((σ.2.1 26 (a4).toNatClampNeg) = a3 → Φ a4 σ) ∧ (¬ (σ.2.1 26 (a4).toNatClampNeg) = a3 → ∀ x11 : Int32, x11 = a4 + 1 → K3 a1 a2 a3 x11 σ)) ∧ (¬ (σ.2.1 25 (a4).toNatClampNeg) = a2 → ∀ x8 : Int32, x8 = a4 + 1 → K3 a1 a2 a3 x8 σ)) ∧ (¬ (σ.2.1 24 (a4).toNatClampNeg) = a1 → ∀ x5 : Int32, x5 = a4 + 1 → K3 a1 a2 a3 x5 σ))
def lp_X7_termOf_b3  (Φ : Int32 → S9 → Prop) : Nat → Int32 → Int32 → Int32 → Int32 → S9 → Prop
  | 0 => fun _ _ _ _ _ => False
  | n + 1 => bd_X7_termOf_b3  (lp_X7_termOf_b3  Φ n) Φ
def wp_X7_termOf (a1 : Int32) (a2 : Int32) (a3 : Int32) (σ : S9) (Φ : Int32 → S9 → Prop) : Prop := ∀ x1 : Int32, x1 = (0 : Int32) → ∃ n : Nat, lp_X7_termOf_b3  Φ n a1 a2 a3 x1 σ
theorem dX7_termOf_0 : decode cX7_termOf 0 = .ok (.iconst 0, 1) := by decide +kernel
theorem dX7_termOf_1 : decode cX7_termOf 1 = .ok (.istore 4, 2) := by decide +kernel
theorem dX7_termOf_3 : decode cX7_termOf 3 = .ok (.iload 4, 2) := by decide +kernel
theorem dX7_termOf_5 : decode cX7_termOf 5 = .ok (.aload_n 0, 1) := by decide +kernel
theorem dX7_termOf_6 : decode cX7_termOf 6 = .ok (.getfield 29, 3) := by decide +kernel
theorem dX7_termOf_9 : decode cX7_termOf 9 = .ok (.if_icmp .ge 45, 3) := by decide +kernel
theorem dX7_termOf_12 : decode cX7_termOf 12 = .ok (.aload_n 0, 1) := by decide +kernel
theorem dX7_termOf_13 : decode cX7_termOf 13 = .ok (.getfield 11, 3) := by decide +kernel
theorem dX7_termOf_16 : decode cX7_termOf 16 = .ok (.iload 4, 2) := by decide +kernel
theorem dX7_termOf_18 : decode cX7_termOf 18 = .ok (.caload, 1) := by decide +kernel
theorem dX7_termOf_19 : decode cX7_termOf 19 = .ok (.iload_n 1, 1) := by decide +kernel
theorem dX7_termOf_20 : decode cX7_termOf 20 = .ok (.if_icmp .ne 28, 3) := by decide +kernel
theorem dX7_termOf_23 : decode cX7_termOf 23 = .ok (.aload_n 0, 1) := by decide +kernel
theorem dX7_termOf_24 : decode cX7_termOf 24 = .ok (.getfield 15, 3) := by decide +kernel
theorem dX7_termOf_27 : decode cX7_termOf 27 = .ok (.iload 4, 2) := by decide +kernel
theorem dX7_termOf_29 : decode cX7_termOf 29 = .ok (.iaload, 1) := by decide +kernel
theorem dX7_termOf_30 : decode cX7_termOf 30 = .ok (.iload_n 2, 1) := by decide +kernel
theorem dX7_termOf_31 : decode cX7_termOf 31 = .ok (.if_icmp .ne 17, 3) := by decide +kernel
theorem dX7_termOf_34 : decode cX7_termOf 34 = .ok (.aload_n 0, 1) := by decide +kernel
theorem dX7_termOf_35 : decode cX7_termOf 35 = .ok (.getfield 19, 3) := by decide +kernel
theorem dX7_termOf_38 : decode cX7_termOf 38 = .ok (.iload 4, 2) := by decide +kernel
theorem dX7_termOf_40 : decode cX7_termOf 40 = .ok (.iaload, 1) := by decide +kernel
theorem dX7_termOf_41 : decode cX7_termOf 41 = .ok (.iload_n 3, 1) := by decide +kernel
theorem dX7_termOf_42 : decode cX7_termOf 42 = .ok (.if_icmp .ne 6, 3) := by decide +kernel
theorem dX7_termOf_45 : decode cX7_termOf 45 = .ok (.iload 4, 2) := by decide +kernel
theorem dX7_termOf_47 : decode cX7_termOf 47 = .ok (.ireturn, 1) := by decide +kernel
theorem dX7_termOf_48 : decode cX7_termOf 48 = .ok (.iinc 4 1, 3) := by decide +kernel
theorem dX7_termOf_51 : decode cX7_termOf 51 = .ok (.goto (-48), 3) := by decide +kernel
theorem dX7_termOf_54 : decode cX7_termOf 54 = .ok (.aload_n 0, 1) := by decide +kernel
theorem dX7_termOf_55 : decode cX7_termOf 55 = .ok (.iload_n 1, 1) := by decide +kernel
theorem dX7_termOf_56 : decode cX7_termOf 56 = .ok (.iload_n 2, 1) := by decide +kernel
theorem dX7_termOf_57 : decode cX7_termOf 57 = .ok (.iload_n 3, 1) := by decide +kernel
theorem dX7_termOf_58 : decode cX7_termOf 58 = .ok (.invokevirtual 62, 3) := by decide +kernel
theorem dX7_termOf_61 : decode cX7_termOf 61 = .ok (.ireturn, 1) := by decide +kernel
set_option maxRecDepth 20000 in
set_option maxHeartbeats 4000000 in
theorem tb_X7_termOf_b3 {p : Program} {l : Launch} {e : Env} {s : State} {m : MethodId} {args : Array Value} {below : List Frame} {meth : Method} {c : Code} {G : GG} {Φ : Int32 → S9 → Prop} {K3 : Int32 → Int32 → Int32 → Int32 → S9 → Prop} (hE : Ev 40 G p s m args c cX7_termOf RX7) (hml : c.maxLocals = 5) (hr : meth.sig.returnType = (some .int)) (hlk : meth.locks = false) (hK3 : ∀ (a1 : Int32) (a2 : Int32) (a3 : Int32) (a4 : Int32) (σ : S9) (H : Heap) (locs : List Loc) (ls : Array Slot), K3 a1 a2 a3 a4 σ → Pic cwl 40 G σ s.heap H locs → lv_has ls 5 [(0, .ref (gAd G 10)), (1, .int a1), (2, .int a2), (3, .int a3), (4, .int a4)] → W p l e rm_X7_termOf s m args below meth c H locs 0 0 (QI cwl 40 G below args s Φ) (F0 m 3 ls [])) {a1 : Int32} {a2 : Int32} {a3 : Int32} {a4 : Int32} {σ : S9} {H : Heap} {locs : List Loc} {ls : Array Slot} (hq : bd_X7_termOf_b3 K3 Φ a1 a2 a3 a4 σ) (hw : Pic cwl 40 G σ s.heap H locs) (hl : lv_has ls 5 [(0, .ref (gAd G 10)), (1, .int a1), (2, .int a2), (3, .int a3), (4, .int a4)]) : W p l e rm_X7_termOf s m args below meth c H locs 0 0 (QI cwl 40 G below args s Φ) (F0 m 3 ls []) := by
  unfold bd_X7_termOf_b3 at hq
  refine lv_iload hE.1 hE.2.1 dX7_termOf_3 (lv_at hl 4 rfl) ?_
  refine lv_aload_n hE.1 hE.2.1 dX7_termOf_5 rfl (lv_at hl 0 rfl) ?_
  refine cgf_X7_29 hE hw dX7_termOf_6 ?_
  refine lv_icmp_ge (tgt := 54) hE.1 hE.2.1 dX7_termOf_9 (by decide) (fun c1 => ?_) (fun c1 => ?_)
  · have hq := hq.1 c1
    refine lv_aload_n hE.1 hE.2.1 dX7_termOf_54 rfl (lv_at hl 0 rfl) ?_
    refine lv_iload_n hE.1 hE.2.1 dX7_termOf_55 rfl (lv_at hl 1 rfl) ?_
    refine lv_iload_n hE.1 hE.2.1 dX7_termOf_56 rfl (lv_at hl 2 rfl) ?_
    refine lv_iload_n hE.1 hE.2.1 dX7_termOf_57 rfl (lv_at hl 3 rfl) ?_
    refine clVi (rest := []) (As := [.int a1, .int a2, .int a3]) hE hml hl.1 hw (c_X7_newTerm hE.2.2.2.2.2 l _ _ _ _ _ hq) cu109 cu111 cu112 cu113 cu110 rfl (k := 3) (by decide +kernel) (by decide) (ci := 7) rfl (q0 := 10) rfl rfl rfl (Nat.le_of_ble_eq_true rfl) dX7_termOf_58 (by decide) (fun r2 σ1 hq H locs hw => ?_)
    exact rtI hE hr hlk hw hq dX7_termOf_61
  · have hq := hq.2 c1
    refine lv_aload_n hE.1 hE.2.1 dX7_termOf_12 rfl (lv_at hl 0 rfl) ?_
    refine cgf_X7_11 hE hw dX7_termOf_13 ?_
    refine lv_iload hE.1 hE.2.1 dX7_termOf_16 (lv_at hl 4 rfl) ?_
    obtain ⟨hi3, hq⟩ := hq
    refine cal_36 hE hw hi3 dX7_termOf_18 ?_
    refine lv_iload_n hE.1 hE.2.1 dX7_termOf_19 rfl (lv_at hl 1 rfl) ?_
    refine lv_icmp_ne (tgt := 48) hE.1 hE.2.1 dX7_termOf_20 (by decide) (fun c4 => ?_) (fun c4 => ?_)
    · have hq := hq.2 c4
      obtain ⟨x5, ex5⟩ : ∃ y : Int32, y = a4 + 1 := ⟨_, rfl⟩
      have hq := hq x5 ex5
      refine lv_iinc (v := x5) (lv' := [(4, .int x5), (0, .ref (gAd G 10)), (1, .int a1), (2, .int a2), (3, .int a3)]) hE.1 hE.2.1 dX7_termOf_48 hl (k := 4) rfl (by rw [ex5]; rfl) (by decide) rfl (fun ls hl => ?_)
      refine lv_goto (tgt := 3) hE.1 hE.2.1 dX7_termOf_51 (by decide) ?_
      exact hK3 _ _ _ _ _ _ _ _ hq hw (lv_sub hl [1, 2, 3, 4, 0] rfl)
    · have hq := hq.1 c4
      refine lv_aload_n hE.1 hE.2.1 dX7_termOf_23 rfl (lv_at hl 0 rfl) ?_
      refine cgf_X7_15 hE hw dX7_termOf_24 ?_
      refine lv_iload hE.1 hE.2.1 dX7_termOf_27 (lv_at hl 4 rfl) ?_
      obtain ⟨hi6, hq⟩ := hq
      refine cal_37 hE hw hi6 dX7_termOf_29 ?_
      refine lv_iload_n hE.1 hE.2.1 dX7_termOf_30 rfl (lv_at hl 2 rfl) ?_
      refine lv_icmp_ne (tgt := 48) hE.1 hE.2.1 dX7_termOf_31 (by decide) (fun c7 => ?_) (fun c7 => ?_)
      · have hq := hq.2 c7
        obtain ⟨x8, ex8⟩ : ∃ y : Int32, y = a4 + 1 := ⟨_, rfl⟩
        have hq := hq x8 ex8
        refine lv_iinc (v := x8) (lv' := [(4, .int x8), (0, .ref (gAd G 10)), (1, .int a1), (2, .int a2), (3, .int a3)]) hE.1 hE.2.1 dX7_termOf_48 hl (k := 4) rfl (by rw [ex8]; rfl) (by decide) rfl (fun ls hl => ?_)
        refine lv_goto (tgt := 3) hE.1 hE.2.1 dX7_termOf_51 (by decide) ?_
        exact hK3 _ _ _ _ _ _ _ _ hq hw (lv_sub hl [1, 2, 3, 4, 0] rfl)
      · have hq := hq.1 c7
        refine lv_aload_n hE.1 hE.2.1 dX7_termOf_34 rfl (lv_at hl 0 rfl) ?_
        refine cgf_X7_19 hE hw dX7_termOf_35 ?_
        refine lv_iload hE.1 hE.2.1 dX7_termOf_38 (lv_at hl 4 rfl) ?_
        obtain ⟨hi9, hq⟩ := hq
        refine cal_38 hE hw hi9 dX7_termOf_40 ?_
        refine lv_iload_n hE.1 hE.2.1 dX7_termOf_41 rfl (lv_at hl 3 rfl) ?_
        refine lv_icmp_ne (tgt := 48) hE.1 hE.2.1 dX7_termOf_42 (by decide) (fun c10 => ?_) (fun c10 => ?_)
        · have hq := hq.2 c10
          obtain ⟨x11, ex11⟩ : ∃ y : Int32, y = a4 + 1 := ⟨_, rfl⟩
          have hq := hq x11 ex11
          refine lv_iinc (v := x11) (lv' := [(4, .int x11), (0, .ref (gAd G 10)), (1, .int a1), (2, .int a2), (3, .int a3)]) hE.1 hE.2.1 dX7_termOf_48 hl (k := 4) rfl (by rw [ex11]; rfl) (by decide) rfl (fun ls hl => ?_)
          refine lv_goto (tgt := 3) hE.1 hE.2.1 dX7_termOf_51 (by decide) ?_
          exact hK3 _ _ _ _ _ _ _ _ hq hw (lv_sub hl [1, 2, 3, 4, 0] rfl)
        · have hq := hq.1 c10
          refine lv_iload hE.1 hE.2.1 dX7_termOf_45 (lv_at hl 4 rfl) ?_
          exact rtI hE hr hlk hw hq dX7_termOf_47
theorem tl_X7_termOf_b3 {p : Program} {l : Launch} {e : Env} {s : State} {m : MethodId} {args : Array Value} {below : List Frame} {meth : Method} {c : Code} {G : GG} {Φ : Int32 → S9 → Prop}  (hE : Ev 40 G p s m args c cX7_termOf RX7) (hml : c.maxLocals = 5) (hr : meth.sig.returnType = (some .int)) (hlk : meth.locks = false)  : ∀ (n : Nat) (a1 : Int32) (a2 : Int32) (a3 : Int32) (a4 : Int32) (σ : S9) (H : Heap) (locs : List Loc) (ls : Array Slot), lp_X7_termOf_b3  Φ n a1 a2 a3 a4 σ → Pic cwl 40 G σ s.heap H locs → lv_has ls 5 [(0, .ref (gAd G 10)), (1, .int a1), (2, .int a2), (3, .int a3), (4, .int a4)] → W p l e rm_X7_termOf s m args below meth c H locs 0 0 (QI cwl 40 G below args s Φ) (F0 m 3 ls []) := by
  intro n
  induction n with
  | zero => intro _ _ _ _ _ _ _ _ hq; exact hq.elim
  | succ n ih => intro _ _ _ _ _ _ _ _ hq hw hl; exact tb_X7_termOf_b3 hE hml hr hlk  ih hq hw hl
set_option maxRecDepth 20000 in
set_option maxHeartbeats 4000000 in
theorem c_X7_termOf {G : GG} (hJ : gJ 40 G) (l : Launch) (a1 : Int32) (a2 : Int32) (a3 : Int32) (σ : S9) (Φ : Int32 → S9 → Prop) (hq : wp_X7_termOf a1 a2 a3 σ Φ) : CI cwl 40 G l yX7_termOf cX7_termOf 5 (some .int) rm_X7_termOf [.ref (gAd G 10), .int a1, .int a2, .int a3] σ Φ := by
  refine CI.intro (by decide) (Nat.le_of_ble_eq_true rfl) hJ ?_
  intro p e s m args below meth c ls hE hml hr hlk hw hl
  have hl : lv_has ls 5 [(0, .ref (gAd G 10)), (1, .int a1), (2, .int a2), (3, .int a3)] := hl
  unfold wp_X7_termOf at hq
  refine lv_iconst (v := (0 : Int32)) hE.1 hE.2.1 dX7_termOf_0 (by decide) ?_
  refine lv_topi (fun x1 ex1 => ?_)
  have hq := hq x1 ex1
  refine lv_istore (lv' := [(4, .int x1), (0, .ref (gAd G 10)), (1, .int a1), (2, .int a2), (3, .int a3)]) hE.1 hE.2.1 dX7_termOf_1 hl (by decide) rfl (fun ls hl => ?_)
  obtain ⟨nn, hq⟩ := hq
  exact tl_X7_termOf_b3 hE hml hr hlk  nn _ _ _ _ _ _ _ _ hq hw (lv_sub hl [1, 2, 3, 4, 0] rfl)
/-! QueueBench$Operands.push(I)V -/
abbrev rm_X4_push_11 : Room := { frames := 0, cells := 0, slots := 0, locals := 0 }
def wp_X4_push_11 (a1 : Int32) (σ : S9) (Φ : S9 → Prop) : Prop := ((60 : Int32) ≤ (σ.1 26) → Φ σ) ∧ (¬ (60 : Int32) ≤ (σ.1 26) → vp_in (σ.1 26) 60 ∧ ∀ σ1 : S9, σ1 = sA σ 27 (upd (σ.2.1 27) ((σ.1 26)).toNatClampNeg a1) → ∀ σ2 : S9, σ2 = sF σ1 26 ((σ1.1 26) + (1 : Int32)) → Φ σ2)
set_option maxRecDepth 20000 in
set_option maxHeartbeats 4000000 in
theorem c_X4_push_11 {G : GG} (hJ : gJ 40 G) (l : Launch) (a1 : Int32) (σ : S9) (Φ : S9 → Prop) (hq : wp_X4_push_11 a1 σ Φ) : CV cwl 40 G l yX4_push cX4_push 2 rm_X4_push_11 [.ref (gAd G 11), .int a1] σ Φ := by
  refine CV.intro (by decide) (Nat.le_of_ble_eq_true rfl) hJ ?_
  intro p e s m args below meth c ls hE hml hr hlk hw hl
  have hl : lv_has ls 2 [(0, .ref (gAd G 11)), (1, .int a1)] := hl
  unfold wp_X4_push_11 at hq
  refine lv_aload_n hE.1 hE.2.1 dX4_push_0 rfl (lv_at hl 0 rfl) ?_
  refine cgf_X4_15_11 hE hw dX4_push_1 ?_
  refine lv_bipush (v := (60 : Int32)) hE.1 hE.2.1 dX4_push_4 (by decide) ?_
  refine lv_icmp_ge (tgt := 29) hE.1 hE.2.1 dX4_push_6 (by decide) (fun c1 => ?_) (fun c1 => ?_)
  · have hq := hq.1 c1
    exact rtV hE hr hlk hw hq dX4_push_29
  · have hq := hq.2 c1
    refine lv_aload_n hE.1 hE.2.1 dX4_push_9 rfl (lv_at hl 0 rfl) ?_
    refine cgf_X4_9_11 hE hw dX4_push_10 ?_
    refine lv_aload_n hE.1 hE.2.1 dX4_push_13 rfl (lv_at hl 0 rfl) ?_
    refine cgf_X4_15_11 hE hw dX4_push_14 ?_
    refine lv_iload_n hE.1 hE.2.1 dX4_push_17 rfl (lv_at hl 1 rfl) ?_
    obtain ⟨hi2, hq⟩ := hq
    refine cas_39 hE hw hi2 dX4_push_18 (fun σ1 eσ1 H locs hw => ?_)
    have hq := hq σ1 eσ1
    refine lv_aload_n hE.1 hE.2.1 dX4_push_19 rfl (lv_at hl 0 rfl) ?_
    refine lv_dup hE.1 hE.2.1 dX4_push_20 rfl ?_
    refine cgf_X4_15_11 hE hw dX4_push_21 ?_
    refine lv_iconst (v := (1 : Int32)) hE.1 hE.2.1 dX4_push_24 (by decide) ?_
    refine lv_iadd hE.1 hE.2.1 dX4_push_25 ?_
    refine cpf_X4_15_11 hE hw dX4_push_26 (fun σ2 eσ2 H locs hw => ?_)
    have hq := hq σ2 eσ2
    exact rtV hE hr hlk hw hq dX4_push_29
/-! QueueBench$TermTable.addSign(CI)V -/
abbrev rm_X7_addSign : Room := { frames := 2, cells := 0, slots := 0, locals := 48 }
def wp_X7_addSign_b12  (Φ : S9 → Prop) (a1 : Int32) (a2 : Int32) (σ : S9) : Prop := wp_X7_termOf a1 a2 (-1 : Int32) σ (fun r1 σ1 => wp_X4_push_11 r1 σ1 (fun σ2 => Φ σ2))
def wp_X7_addSign_b64  (Φ : S9 → Prop) (a1 : Int32) (σ : S9) : Prop := wp_X4_pop_11 σ (fun r1 σ1 => wp_X7_termOf a1 r1 (-1 : Int32) σ1 (fun r2 σ2 => wp_X4_push_11 r2 σ2 (fun σ3 => Φ σ3)))
def wp_X7_addSign (a1 : Int32) (a2 : Int32) (σ : S9) (Φ : S9 → Prop) : Prop := (a1 = (48 : Int32) → wp_X7_addSign_b12  Φ a1 a2 σ) ∧ (¬ a1 = (48 : Int32) → (a1 = (97 : Int32) → wp_X7_addSign_b12  Φ a1 a2 σ) ∧ (¬ a1 = (97 : Int32) → (a1 = (35 : Int32) → wp_X7_newTerm a1 (-1 : Int32) (-1 : Int32) σ (fun r9 σ5 => wp_X4_push_11 r9 σ5 (fun σ6 => Φ σ6))) ∧ (¬ a1 = (35 : Int32) → (a1 = (126 : Int32) → wp_X7_addSign_b64  Φ a1 σ) ∧ (¬ a1 = (126 : Int32) → (a1 = (64 : Int32) → wp_X7_addSign_b64  Φ a1 σ) ∧ (¬ a1 = (64 : Int32) → wp_X4_pop_11 σ (fun r6 σ1 => wp_X4_pop_11 σ1 (fun r7 σ2 => wp_X7_termOf a1 r7 r6 σ2 (fun r8 σ3 => wp_X4_push_11 r8 σ3 (fun σ4 => Φ σ4)))))))))
theorem dX7_addSign_0 : decode cX7_addSign 0 = .ok (.iload_n 1, 1) := by decide +kernel
theorem dX7_addSign_1 : decode cX7_addSign 1 = .ok (.bipush 48, 2) := by decide +kernel
theorem dX7_addSign_3 : decode cX7_addSign 3 = .ok (.if_icmp .eq 9, 3) := by decide +kernel
theorem dX7_addSign_6 : decode cX7_addSign 6 = .ok (.iload_n 1, 1) := by decide +kernel
theorem dX7_addSign_7 : decode cX7_addSign 7 = .ok (.bipush 97, 2) := by decide +kernel
theorem dX7_addSign_9 : decode cX7_addSign 9 = .ok (.if_icmp .ne 20, 3) := by decide +kernel
theorem dX7_addSign_12 : decode cX7_addSign 12 = .ok (.aload_n 0, 1) := by decide +kernel
theorem dX7_addSign_13 : decode cX7_addSign 13 = .ok (.getfield 25, 3) := by decide +kernel
theorem dX7_addSign_16 : decode cX7_addSign 16 = .ok (.aload_n 0, 1) := by decide +kernel
theorem dX7_addSign_17 : decode cX7_addSign 17 = .ok (.iload_n 1, 1) := by decide +kernel
theorem dX7_addSign_18 : decode cX7_addSign 18 = .ok (.iload_n 2, 1) := by decide +kernel
theorem dX7_addSign_19 : decode cX7_addSign 19 = .ok (.iconst (-1), 1) := by decide +kernel
theorem dX7_addSign_20 : decode cX7_addSign 20 = .ok (.invokevirtual 54, 3) := by decide +kernel
theorem dX7_addSign_23 : decode cX7_addSign 23 = .ok (.invokevirtual 58, 3) := by decide +kernel
theorem dX7_addSign_26 : decode cX7_addSign 26 = .ok (.goto 89, 3) := by decide +kernel
theorem dX7_addSign_29 : decode cX7_addSign 29 = .ok (.iload_n 1, 1) := by decide +kernel
theorem dX7_addSign_30 : decode cX7_addSign 30 = .ok (.bipush 35, 2) := by decide +kernel
theorem dX7_addSign_32 : decode cX7_addSign 32 = .ok (.if_icmp .ne 20, 3) := by decide +kernel
theorem dX7_addSign_35 : decode cX7_addSign 35 = .ok (.aload_n 0, 1) := by decide +kernel
theorem dX7_addSign_36 : decode cX7_addSign 36 = .ok (.getfield 25, 3) := by decide +kernel
theorem dX7_addSign_39 : decode cX7_addSign 39 = .ok (.aload_n 0, 1) := by decide +kernel
theorem dX7_addSign_40 : decode cX7_addSign 40 = .ok (.iload_n 1, 1) := by decide +kernel
theorem dX7_addSign_41 : decode cX7_addSign 41 = .ok (.iconst (-1), 1) := by decide +kernel
theorem dX7_addSign_42 : decode cX7_addSign 42 = .ok (.iconst (-1), 1) := by decide +kernel
theorem dX7_addSign_43 : decode cX7_addSign 43 = .ok (.invokevirtual 62, 3) := by decide +kernel
theorem dX7_addSign_46 : decode cX7_addSign 46 = .ok (.invokevirtual 58, 3) := by decide +kernel
theorem dX7_addSign_49 : decode cX7_addSign 49 = .ok (.goto 66, 3) := by decide +kernel
theorem dX7_addSign_52 : decode cX7_addSign 52 = .ok (.iload_n 1, 1) := by decide +kernel
theorem dX7_addSign_53 : decode cX7_addSign 53 = .ok (.bipush 126, 2) := by decide +kernel
theorem dX7_addSign_55 : decode cX7_addSign 55 = .ok (.if_icmp .eq 9, 3) := by decide +kernel
theorem dX7_addSign_58 : decode cX7_addSign 58 = .ok (.iload_n 1, 1) := by decide +kernel
theorem dX7_addSign_59 : decode cX7_addSign 59 = .ok (.bipush 64, 2) := by decide +kernel
theorem dX7_addSign_61 : decode cX7_addSign 61 = .ok (.if_icmp .ne 26, 3) := by decide +kernel
theorem dX7_addSign_64 : decode cX7_addSign 64 = .ok (.aload_n 0, 1) := by decide +kernel
theorem dX7_addSign_65 : decode cX7_addSign 65 = .ok (.getfield 25, 3) := by decide +kernel
theorem dX7_addSign_68 : decode cX7_addSign 68 = .ok (.aload_n 0, 1) := by decide +kernel
theorem dX7_addSign_69 : decode cX7_addSign 69 = .ok (.iload_n 1, 1) := by decide +kernel
theorem dX7_addSign_70 : decode cX7_addSign 70 = .ok (.aload_n 0, 1) := by decide +kernel
theorem dX7_addSign_71 : decode cX7_addSign 71 = .ok (.getfield 25, 3) := by decide +kernel
theorem dX7_addSign_74 : decode cX7_addSign 74 = .ok (.invokevirtual 65, 3) := by decide +kernel
theorem dX7_addSign_77 : decode cX7_addSign 77 = .ok (.iconst (-1), 1) := by decide +kernel
theorem dX7_addSign_78 : decode cX7_addSign 78 = .ok (.invokevirtual 54, 3) := by decide +kernel
theorem dX7_addSign_81 : decode cX7_addSign 81 = .ok (.invokevirtual 58, 3) := by decide +kernel
theorem dX7_addSign_84 : decode cX7_addSign 84 = .ok (.goto 31, 3) := by decide +kernel
theorem dX7_addSign_87 : decode cX7_addSign 87 = .ok (.aload_n 0, 1) := by decide +kernel
theorem dX7_addSign_88 : decode cX7_addSign 88 = .ok (.getfield 25, 3) := by decide +kernel
theorem dX7_addSign_91 : decode cX7_addSign 91 = .ok (.invokevirtual 65, 3) := by decide +kernel
theorem dX7_addSign_94 : decode cX7_addSign 94 = .ok (.istore_n 3, 1) := by decide +kernel
theorem dX7_addSign_95 : decode cX7_addSign 95 = .ok (.aload_n 0, 1) := by decide +kernel
theorem dX7_addSign_96 : decode cX7_addSign 96 = .ok (.getfield 25, 3) := by decide +kernel
theorem dX7_addSign_99 : decode cX7_addSign 99 = .ok (.aload_n 0, 1) := by decide +kernel
theorem dX7_addSign_100 : decode cX7_addSign 100 = .ok (.iload_n 1, 1) := by decide +kernel
theorem dX7_addSign_101 : decode cX7_addSign 101 = .ok (.aload_n 0, 1) := by decide +kernel
theorem dX7_addSign_102 : decode cX7_addSign 102 = .ok (.getfield 25, 3) := by decide +kernel
theorem dX7_addSign_105 : decode cX7_addSign 105 = .ok (.invokevirtual 65, 3) := by decide +kernel
theorem dX7_addSign_108 : decode cX7_addSign 108 = .ok (.iload_n 3, 1) := by decide +kernel
theorem dX7_addSign_109 : decode cX7_addSign 109 = .ok (.invokevirtual 54, 3) := by decide +kernel
theorem dX7_addSign_112 : decode cX7_addSign 112 = .ok (.invokevirtual 58, 3) := by decide +kernel
theorem dX7_addSign_115 : decode cX7_addSign 115 = .ok (.return_, 1) := by decide +kernel
set_option maxRecDepth 20000 in
set_option maxHeartbeats 4000000 in
theorem tb_X7_addSign_b12 {p : Program} {l : Launch} {e : Env} {s : State} {m : MethodId} {args : Array Value} {below : List Frame} {meth : Method} {c : Code} {G : GG} {Φ : S9 → Prop}  (hE : Ev 40 G p s m args c cX7_addSign RX7) (hml : c.maxLocals = 4) (hr : meth.sig.returnType = none) (hlk : meth.locks = false)  {a1 : Int32} {a2 : Int32} {σ : S9} {H : Heap} {locs : List Loc} {ls : Array Slot} (hq : wp_X7_addSign_b12  Φ a1 a2 σ) (hw : Pic cwl 40 G σ s.heap H locs) (hl : lv_has ls 4 [(0, .ref (gAd G 10)), (1, .int a1), (2, .int a2)]) : W p l e rm_X7_addSign s m args below meth c H locs 0 0 (QV cwl 40 G below args s Φ) (F0 m 12 ls []) := by
  unfold wp_X7_addSign_b12 at hq
  refine lv_aload_n hE.1 hE.2.1 dX7_addSign_12 rfl (lv_at hl 0 rfl) ?_
  refine cgf_X7_25 hE hw dX7_addSign_13 ?_
  refine lv_aload_n hE.1 hE.2.1 dX7_addSign_16 rfl (lv_at hl 0 rfl) ?_
  refine lv_iload_n hE.1 hE.2.1 dX7_addSign_17 rfl (lv_at hl 1 rfl) ?_
  refine lv_iload_n hE.1 hE.2.1 dX7_addSign_18 rfl (lv_at hl 2 rfl) ?_
  refine lv_iconst (v := (-1 : Int32)) hE.1 hE.2.1 dX7_addSign_19 (by decide) ?_
  refine clVi (rest := [.ref (gAd G 11)]) (As := [.int a1, .int a2, .int (-1 : Int32)]) hE hml hl.1 hw (c_X7_termOf hE.2.2.2.2.2 l _ _ _ _ _ hq) cu114 cu115 cu116 cu117 cu110 rfl (k := 3) (by decide +kernel) (by decide) (ci := 7) rfl (q0 := 10) rfl rfl rfl (Nat.le_of_ble_eq_true rfl) dX7_addSign_20 (by decide) (fun r1 σ1 hq H locs hw => ?_)
  refine clVv (rest := []) (As := [.int r1]) hE hml hl.1 hw (c_X4_push_11 hE.2.2.2.2.2 l _ _ _ hq) cu32 cu118 cu35 cu36 cu33 rfl (k := 1) (by decide +kernel) (by decide) (ci := 4) rfl (q0 := 11) rfl rfl rfl (Nat.le_of_ble_eq_true rfl) dX7_addSign_23 (by decide) (fun σ2 hq H locs hw => ?_)
  refine lv_goto (tgt := 115) hE.1 hE.2.1 dX7_addSign_26 (by decide) ?_
  exact rtV hE hr hlk hw hq dX7_addSign_115
set_option maxRecDepth 20000 in
set_option maxHeartbeats 4000000 in
theorem tb_X7_addSign_b64 {p : Program} {l : Launch} {e : Env} {s : State} {m : MethodId} {args : Array Value} {below : List Frame} {meth : Method} {c : Code} {G : GG} {Φ : S9 → Prop}  (hE : Ev 40 G p s m args c cX7_addSign RX7) (hml : c.maxLocals = 4) (hr : meth.sig.returnType = none) (hlk : meth.locks = false)  {a1 : Int32} {σ : S9} {H : Heap} {locs : List Loc} {ls : Array Slot} (hq : wp_X7_addSign_b64  Φ a1 σ) (hw : Pic cwl 40 G σ s.heap H locs) (hl : lv_has ls 4 [(0, .ref (gAd G 10)), (1, .int a1)]) : W p l e rm_X7_addSign s m args below meth c H locs 0 0 (QV cwl 40 G below args s Φ) (F0 m 64 ls []) := by
  unfold wp_X7_addSign_b64 at hq
  refine lv_aload_n hE.1 hE.2.1 dX7_addSign_64 rfl (lv_at hl 0 rfl) ?_
  refine cgf_X7_25 hE hw dX7_addSign_65 ?_
  refine lv_aload_n hE.1 hE.2.1 dX7_addSign_68 rfl (lv_at hl 0 rfl) ?_
  refine lv_iload_n hE.1 hE.2.1 dX7_addSign_69 rfl (lv_at hl 1 rfl) ?_
  refine lv_aload_n hE.1 hE.2.1 dX7_addSign_70 rfl (lv_at hl 0 rfl) ?_
  refine cgf_X7_25 hE hw dX7_addSign_71 ?_
  refine clVi (rest := [.int a1, .ref (gAd G 10), .ref (gAd G 11)]) (As := []) hE hml hl.1 hw (c_X4_pop_11 hE.2.2.2.2.2 l _ _ hq) cu42 cu105 cu44 cu45 cu33 rfl (k := 0) (by decide +kernel) (by decide) (ci := 4) rfl (q0 := 11) rfl rfl rfl (Nat.le_of_ble_eq_true rfl) dX7_addSign_74 (by decide) (fun r1 σ1 hq H locs hw => ?_)
  refine lv_iconst (v := (-1 : Int32)) hE.1 hE.2.1 dX7_addSign_77 (by decide) ?_
  refine clVi (rest := [.ref (gAd G 11)]) (As := [.int a1, .int r1, .int (-1 : Int32)]) hE hml hl.1 hw (c_X7_termOf hE.2.2.2.2.2 l _ _ _ _ _ hq) cu114 cu115 cu116 cu117 cu110 rfl (k := 3) (by decide +kernel) (by decide) (ci := 7) rfl (q0 := 10) rfl rfl rfl (Nat.le_of_ble_eq_true rfl) dX7_addSign_78 (by decide) (fun r2 σ2 hq H locs hw => ?_)
  refine clVv (rest := []) (As := [.int r2]) hE hml hl.1 hw (c_X4_push_11 hE.2.2.2.2.2 l _ _ _ hq) cu32 cu118 cu35 cu36 cu33 rfl (k := 1) (by decide +kernel) (by decide) (ci := 4) rfl (q0 := 11) rfl rfl rfl (Nat.le_of_ble_eq_true rfl) dX7_addSign_81 (by decide) (fun σ3 hq H locs hw => ?_)
  refine lv_goto (tgt := 115) hE.1 hE.2.1 dX7_addSign_84 (by decide) ?_
  exact rtV hE hr hlk hw hq dX7_addSign_115
set_option maxRecDepth 20000 in
set_option maxHeartbeats 4000000 in
theorem c_X7_addSign {G : GG} (hJ : gJ 40 G) (l : Launch) (a1 : Int32) (a2 : Int32) (σ : S9) (Φ : S9 → Prop) (hq : wp_X7_addSign a1 a2 σ Φ) : CV cwl 40 G l yX7_addSign cX7_addSign 4 rm_X7_addSign [.ref (gAd G 10), .int a1, .int a2] σ Φ := by
  refine CV.intro (by decide) (Nat.le_of_ble_eq_true rfl) hJ ?_
  intro p e s m args below meth c ls hE hml hr hlk hw hl
  have hl : lv_has ls 4 [(0, .ref (gAd G 10)), (1, .int a1), (2, .int a2)] := hl
  unfold wp_X7_addSign at hq
  refine lv_iload_n hE.1 hE.2.1 dX7_addSign_0 rfl (lv_at hl 1 rfl) ?_
  refine lv_bipush (v := (48 : Int32)) hE.1 hE.2.1 dX7_addSign_1 (by decide) ?_
  refine lv_icmp_eq (tgt := 12) hE.1 hE.2.1 dX7_addSign_3 (by decide) (fun c1 => ?_) (fun c1 => ?_)
  · have hq := hq.1 c1
    exact tb_X7_addSign_b12 hE hml hr hlk  hq hw (lv_sub hl [0, 1, 2] rfl)
  · have hq := hq.2 c1
    refine lv_iload_n hE.1 hE.2.1 dX7_addSign_6 rfl (lv_at hl 1 rfl) ?_
    refine lv_bipush (v := (97 : Int32)) hE.1 hE.2.1 dX7_addSign_7 (by decide) ?_
    refine lv_icmp_ne (tgt := 29) hE.1 hE.2.1 dX7_addSign_9 (by decide) (fun c2 => ?_) (fun c2 => ?_)
    · have hq := hq.2 c2
      refine lv_iload_n hE.1 hE.2.1 dX7_addSign_29 rfl (lv_at hl 1 rfl) ?_
      refine lv_bipush (v := (35 : Int32)) hE.1 hE.2.1 dX7_addSign_30 (by decide) ?_
      refine lv_icmp_ne (tgt := 52) hE.1 hE.2.1 dX7_addSign_32 (by decide) (fun c3 => ?_) (fun c3 => ?_)
      · have hq := hq.2 c3
        refine lv_iload_n hE.1 hE.2.1 dX7_addSign_52 rfl (lv_at hl 1 rfl) ?_
        refine lv_bipush (v := (126 : Int32)) hE.1 hE.2.1 dX7_addSign_53 (by decide) ?_
        refine lv_icmp_eq (tgt := 64) hE.1 hE.2.1 dX7_addSign_55 (by decide) (fun c4 => ?_) (fun c4 => ?_)
        · have hq := hq.1 c4
          exact tb_X7_addSign_b64 hE hml hr hlk  hq hw (lv_sub hl [0, 1] rfl)
        · have hq := hq.2 c4
          refine lv_iload_n hE.1 hE.2.1 dX7_addSign_58 rfl (lv_at hl 1 rfl) ?_
          refine lv_bipush (v := (64 : Int32)) hE.1 hE.2.1 dX7_addSign_59 (by decide) ?_
          refine lv_icmp_ne (tgt := 87) hE.1 hE.2.1 dX7_addSign_61 (by decide) (fun c5 => ?_) (fun c5 => ?_)
          · have hq := hq.2 c5
            refine lv_aload_n hE.1 hE.2.1 dX7_addSign_87 rfl (lv_at hl 0 rfl) ?_
            refine cgf_X7_25 hE hw dX7_addSign_88 ?_
            refine clVi (rest := []) (As := []) hE hml hl.1 hw (c_X4_pop_11 hE.2.2.2.2.2 l _ _ hq) cu42 cu105 cu44 cu45 cu33 rfl (k := 0) (by decide +kernel) (by decide) (ci := 4) rfl (q0 := 11) rfl rfl rfl (Nat.le_of_ble_eq_true rfl) dX7_addSign_91 (by decide) (fun r6 σ1 hq H locs hw => ?_)
            refine lv_istore_n (lv' := [(3, .int r6), (0, .ref (gAd G 10)), (1, .int a1), (2, .int a2)]) hE.1 hE.2.1 dX7_addSign_94 rfl hl (by decide) rfl (fun ls hl => ?_)
            refine lv_aload_n hE.1 hE.2.1 dX7_addSign_95 rfl (lv_at hl 1 rfl) ?_
            refine cgf_X7_25 hE hw dX7_addSign_96 ?_
            refine lv_aload_n hE.1 hE.2.1 dX7_addSign_99 rfl (lv_at hl 1 rfl) ?_
            refine lv_iload_n hE.1 hE.2.1 dX7_addSign_100 rfl (lv_at hl 2 rfl) ?_
            refine lv_aload_n hE.1 hE.2.1 dX7_addSign_101 rfl (lv_at hl 1 rfl) ?_
            refine cgf_X7_25 hE hw dX7_addSign_102 ?_
            refine clVi (rest := [.int a1, .ref (gAd G 10), .ref (gAd G 11)]) (As := []) hE hml hl.1 hw (c_X4_pop_11 hE.2.2.2.2.2 l _ _ hq) cu42 cu105 cu44 cu45 cu33 rfl (k := 0) (by decide +kernel) (by decide) (ci := 4) rfl (q0 := 11) rfl rfl rfl (Nat.le_of_ble_eq_true rfl) dX7_addSign_105 (by decide) (fun r7 σ2 hq H locs hw => ?_)
            refine lv_iload_n hE.1 hE.2.1 dX7_addSign_108 rfl (lv_at hl 0 rfl) ?_
            refine clVi (rest := [.ref (gAd G 11)]) (As := [.int a1, .int r7, .int r6]) hE hml hl.1 hw (c_X7_termOf hE.2.2.2.2.2 l _ _ _ _ _ hq) cu114 cu115 cu116 cu117 cu110 rfl (k := 3) (by decide +kernel) (by decide) (ci := 7) rfl (q0 := 10) rfl rfl rfl (Nat.le_of_ble_eq_true rfl) dX7_addSign_109 (by decide) (fun r8 σ3 hq H locs hw => ?_)
            refine clVv (rest := []) (As := [.int r8]) hE hml hl.1 hw (c_X4_push_11 hE.2.2.2.2.2 l _ _ _ hq) cu32 cu118 cu35 cu36 cu33 rfl (k := 1) (by decide +kernel) (by decide) (ci := 4) rfl (q0 := 11) rfl rfl rfl (Nat.le_of_ble_eq_true rfl) dX7_addSign_112 (by decide) (fun σ4 hq H locs hw => ?_)
            exact rtV hE hr hlk hw hq dX7_addSign_115
          · have hq := hq.1 c5
            exact tb_X7_addSign_b64 hE hml hr hlk  hq hw (lv_sub hl [0, 1] rfl)
      · have hq := hq.1 c3
        refine lv_aload_n hE.1 hE.2.1 dX7_addSign_35 rfl (lv_at hl 0 rfl) ?_
        refine cgf_X7_25 hE hw dX7_addSign_36 ?_
        refine lv_aload_n hE.1 hE.2.1 dX7_addSign_39 rfl (lv_at hl 0 rfl) ?_
        refine lv_iload_n hE.1 hE.2.1 dX7_addSign_40 rfl (lv_at hl 1 rfl) ?_
        refine lv_iconst (v := (-1 : Int32)) hE.1 hE.2.1 dX7_addSign_41 (by decide) ?_
        refine lv_iconst (v := (-1 : Int32)) hE.1 hE.2.1 dX7_addSign_42 (by decide) ?_
        refine clVi (rest := [.ref (gAd G 11)]) (As := [.int a1, .int (-1 : Int32), .int (-1 : Int32)]) hE hml hl.1 hw (c_X7_newTerm hE.2.2.2.2.2 l _ _ _ _ _ hq) cu109 cu111 cu112 cu113 cu110 rfl (k := 3) (by decide +kernel) (by decide) (ci := 7) rfl (q0 := 10) rfl rfl rfl (Nat.le_of_ble_eq_true rfl) dX7_addSign_43 (by decide) (fun r9 σ5 hq H locs hw => ?_)
        refine clVv (rest := []) (As := [.int r9]) hE hml hl.1 hw (c_X4_push_11 hE.2.2.2.2.2 l _ _ _ hq) cu32 cu118 cu35 cu36 cu33 rfl (k := 1) (by decide +kernel) (by decide) (ci := 4) rfl (q0 := 11) rfl rfl rfl (Nat.le_of_ble_eq_true rfl) dX7_addSign_46 (by decide) (fun σ6 hq H locs hw => ?_)
        refine lv_goto (tgt := 115) hE.1 hE.2.1 dX7_addSign_49 (by decide) ?_
        exact rtV hE hr hlk hw hq dX7_addSign_115
    · have hq := hq.1 c2
      exact tb_X7_addSign_b12 hE hml hr hlk  hq hw (lv_sub hl [0, 1, 2] rfl)
/-! QueueBench$TermTable.differentTerms(LQueueBench$Program;I)I -/
abbrev rm_X7_differentTerms : Room := { frames := 3, cells := 0, slots := 0, locals := 71 }
def bd_X7_differentTerms_b27 (K27 : Int32 → Int32 → S9 → Prop) (Φ : Int32 → S9 → Prop) (a3 : Int32) (a4 : Int32) (σ : S9) : Prop := (a3 ≤ a4 → Φ (σ.1 25) σ) ∧ (¬ a3 ≤ a4 → vp_in a4 3000 ∧ vp_in a4 3000 ∧ wp_X7_addSign (σ.2.1 10 (a4).toNatClampNeg) (σ.2.1 11 (a4).toNatClampNeg) σ (fun σ1 => ∀ x4 : Int32, x4 = a4 + 1 → K27 a3 x4 σ1))
def lp_X7_differentTerms_b27  (Φ : Int32 → S9 → Prop) : Nat → Int32 → Int32 → S9 → Prop
  | 0 => fun _ _ _ => False
  | n + 1 => bd_X7_differentTerms_b27  (lp_X7_differentTerms_b27  Φ n) Φ
def wp_X7_differentTerms (a2 : Int32) (σ : S9) (Φ : Int32 → S9 → Prop) : Prop := ∀ σ1 : S9, σ1 = sF σ 25 (0 : Int32) → ∀ σ2 : S9, σ2 = sF σ1 26 (0 : Int32) → vp_in a2 300 ∧ ∀ x2 : Int32, x2 = (σ2.2.1 9 (a2).toNatClampNeg) → wp_X6_codeStart a2 σ2 (fun r3 σ3 => ∃ n : Nat, lp_X7_differentTerms_b27  Φ n x2 r3 σ3)
theorem dX7_differentTerms_0 : decode cX7_differentTerms 0 = .ok (.aload_n 0, 1) := by decide +kernel
theorem dX7_differentTerms_1 : decode cX7_differentTerms 1 = .ok (.iconst 0, 1) := by decide +kernel
theorem dX7_differentTerms_2 : decode cX7_differentTerms 2 = .ok (.putfield 29, 3) := by decide +kernel
theorem dX7_differentTerms_5 : decode cX7_differentTerms 5 = .ok (.aload_n 0, 1) := by decide +kernel
theorem dX7_differentTerms_6 : decode cX7_differentTerms 6 = .ok (.getfield 25, 3) := by decide +kernel
theorem dX7_differentTerms_9 : decode cX7_differentTerms 9 = .ok (.iconst 0, 1) := by decide +kernel
theorem dX7_differentTerms_10 : decode cX7_differentTerms 10 = .ok (.putfield 33, 3) := by decide +kernel
theorem dX7_differentTerms_13 : decode cX7_differentTerms 13 = .ok (.aload_n 1, 1) := by decide +kernel
theorem dX7_differentTerms_14 : decode cX7_differentTerms 14 = .ok (.getfield 36, 3) := by decide +kernel
theorem dX7_differentTerms_17 : decode cX7_differentTerms 17 = .ok (.iload_n 2, 1) := by decide +kernel
theorem dX7_differentTerms_18 : decode cX7_differentTerms 18 = .ok (.iaload, 1) := by decide +kernel
theorem dX7_differentTerms_19 : decode cX7_differentTerms 19 = .ok (.istore_n 3, 1) := by decide +kernel
theorem dX7_differentTerms_20 : decode cX7_differentTerms 20 = .ok (.aload_n 1, 1) := by decide +kernel
theorem dX7_differentTerms_21 : decode cX7_differentTerms 21 = .ok (.iload_n 2, 1) := by decide +kernel
theorem dX7_differentTerms_22 : decode cX7_differentTerms 22 = .ok (.invokevirtual 41, 3) := by decide +kernel
theorem dX7_differentTerms_25 : decode cX7_differentTerms 25 = .ok (.istore 4, 2) := by decide +kernel
theorem dX7_differentTerms_27 : decode cX7_differentTerms 27 = .ok (.iload 4, 2) := by decide +kernel
theorem dX7_differentTerms_29 : decode cX7_differentTerms 29 = .ok (.iload_n 3, 1) := by decide +kernel
theorem dX7_differentTerms_30 : decode cX7_differentTerms 30 = .ok (.if_icmp .ge 27, 3) := by decide +kernel
theorem dX7_differentTerms_33 : decode cX7_differentTerms 33 = .ok (.aload_n 0, 1) := by decide +kernel
theorem dX7_differentTerms_34 : decode cX7_differentTerms 34 = .ok (.aload_n 1, 1) := by decide +kernel
theorem dX7_differentTerms_35 : decode cX7_differentTerms 35 = .ok (.getfield 45, 3) := by decide +kernel
theorem dX7_differentTerms_38 : decode cX7_differentTerms 38 = .ok (.iload 4, 2) := by decide +kernel
theorem dX7_differentTerms_40 : decode cX7_differentTerms 40 = .ok (.caload, 1) := by decide +kernel
theorem dX7_differentTerms_41 : decode cX7_differentTerms 41 = .ok (.aload_n 1, 1) := by decide +kernel
theorem dX7_differentTerms_42 : decode cX7_differentTerms 42 = .ok (.getfield 48, 3) := by decide +kernel
theorem dX7_differentTerms_45 : decode cX7_differentTerms 45 = .ok (.iload 4, 2) := by decide +kernel
theorem dX7_differentTerms_47 : decode cX7_differentTerms 47 = .ok (.iaload, 1) := by decide +kernel
theorem dX7_differentTerms_48 : decode cX7_differentTerms 48 = .ok (.invokevirtual 50, 3) := by decide +kernel
theorem dX7_differentTerms_51 : decode cX7_differentTerms 51 = .ok (.iinc 4 1, 3) := by decide +kernel
theorem dX7_differentTerms_54 : decode cX7_differentTerms 54 = .ok (.goto (-27), 3) := by decide +kernel
theorem dX7_differentTerms_57 : decode cX7_differentTerms 57 = .ok (.aload_n 0, 1) := by decide +kernel
theorem dX7_differentTerms_58 : decode cX7_differentTerms 58 = .ok (.getfield 29, 3) := by decide +kernel
theorem dX7_differentTerms_61 : decode cX7_differentTerms 61 = .ok (.ireturn, 1) := by decide +kernel
set_option maxRecDepth 20000 in
set_option maxHeartbeats 4000000 in
theorem tb_X7_differentTerms_b27 {p : Program} {l : Launch} {e : Env} {s : State} {m : MethodId} {args : Array Value} {below : List Frame} {meth : Method} {c : Code} {G : GG} {Φ : Int32 → S9 → Prop} {K27 : Int32 → Int32 → S9 → Prop} (hE : Ev 40 G p s m args c cX7_differentTerms RX7) (hml : c.maxLocals = 5) (hr : meth.sig.returnType = (some .int)) (hlk : meth.locks = false) (hK27 : ∀ (a3 : Int32) (a4 : Int32) (σ : S9) (H : Heap) (locs : List Loc) (ls : Array Slot), K27 a3 a4 σ → Pic cwl 40 G σ s.heap H locs → lv_has ls 5 [(0, .ref (gAd G 10)), (1, .ref (gAd G 3)), (3, .int a3), (4, .int a4)] → W p l e rm_X7_differentTerms s m args below meth c H locs 0 0 (QI cwl 40 G below args s Φ) (F0 m 27 ls [])) {a3 : Int32} {a4 : Int32} {σ : S9} {H : Heap} {locs : List Loc} {ls : Array Slot} (hq : bd_X7_differentTerms_b27 K27 Φ a3 a4 σ) (hw : Pic cwl 40 G σ s.heap H locs) (hl : lv_has ls 5 [(0, .ref (gAd G 10)), (1, .ref (gAd G 3)), (3, .int a3), (4, .int a4)]) : W p l e rm_X7_differentTerms s m args below meth c H locs 0 0 (QI cwl 40 G below args s Φ) (F0 m 27 ls []) := by
  unfold bd_X7_differentTerms_b27 at hq
  refine lv_iload hE.1 hE.2.1 dX7_differentTerms_27 (lv_at hl 3 rfl) ?_
  refine lv_iload_n hE.1 hE.2.1 dX7_differentTerms_29 rfl (lv_at hl 2 rfl) ?_
  refine lv_icmp_ge (tgt := 57) hE.1 hE.2.1 dX7_differentTerms_30 (by decide) (fun c1 => ?_) (fun c1 => ?_)
  · have hq := hq.1 c1
    refine lv_aload_n hE.1 hE.2.1 dX7_differentTerms_57 rfl (lv_at hl 0 rfl) ?_
    refine cgf_X7_29 hE hw dX7_differentTerms_58 ?_
    exact rtI hE hr hlk hw hq dX7_differentTerms_61
  · have hq := hq.2 c1
    refine lv_aload_n hE.1 hE.2.1 dX7_differentTerms_33 rfl (lv_at hl 0 rfl) ?_
    refine lv_aload_n hE.1 hE.2.1 dX7_differentTerms_34 rfl (lv_at hl 1 rfl) ?_
    refine cgf_X7_45 hE hw dX7_differentTerms_35 ?_
    refine lv_iload hE.1 hE.2.1 dX7_differentTerms_38 (lv_at hl 3 rfl) ?_
    obtain ⟨hi2, hq⟩ := hq
    refine cal_22 hE hw hi2 dX7_differentTerms_40 ?_
    refine lv_aload_n hE.1 hE.2.1 dX7_differentTerms_41 rfl (lv_at hl 1 rfl) ?_
    refine cgf_X7_48 hE hw dX7_differentTerms_42 ?_
    refine lv_iload hE.1 hE.2.1 dX7_differentTerms_45 (lv_at hl 3 rfl) ?_
    obtain ⟨hi3, hq⟩ := hq
    refine cal_23 hE hw hi3 dX7_differentTerms_47 ?_
    refine clVv (rest := []) (As := [.int (σ.2.1 10 (a4).toNatClampNeg), .int (σ.2.1 11 (a4).toNatClampNeg)]) hE hml hl.1 hw (c_X7_addSign hE.2.2.2.2.2 l _ _ _ _ hq) cu119 cu120 cu121 cu122 cu110 rfl (k := 2) (by decide +kernel) (by decide) (ci := 7) rfl (q0 := 10) rfl rfl rfl (Nat.le_of_ble_eq_true rfl) dX7_differentTerms_48 (by decide) (fun σ1 hq H locs hw => ?_)
    obtain ⟨x4, ex4⟩ : ∃ y : Int32, y = a4 + 1 := ⟨_, rfl⟩
    have hq := hq x4 ex4
    refine lv_iinc (v := x4) (lv' := [(4, .int x4), (0, .ref (gAd G 10)), (1, .ref (gAd G 3)), (3, .int a3)]) hE.1 hE.2.1 dX7_differentTerms_51 hl (k := 3) rfl (by rw [ex4]; rfl) (by decide) rfl (fun ls hl => ?_)
    refine lv_goto (tgt := 27) hE.1 hE.2.1 dX7_differentTerms_54 (by decide) ?_
    exact hK27 _ _ _ _ _ _ hq hw (lv_sub hl [1, 2, 3, 0] rfl)
theorem tl_X7_differentTerms_b27 {p : Program} {l : Launch} {e : Env} {s : State} {m : MethodId} {args : Array Value} {below : List Frame} {meth : Method} {c : Code} {G : GG} {Φ : Int32 → S9 → Prop}  (hE : Ev 40 G p s m args c cX7_differentTerms RX7) (hml : c.maxLocals = 5) (hr : meth.sig.returnType = (some .int)) (hlk : meth.locks = false)  : ∀ (n : Nat) (a3 : Int32) (a4 : Int32) (σ : S9) (H : Heap) (locs : List Loc) (ls : Array Slot), lp_X7_differentTerms_b27  Φ n a3 a4 σ → Pic cwl 40 G σ s.heap H locs → lv_has ls 5 [(0, .ref (gAd G 10)), (1, .ref (gAd G 3)), (3, .int a3), (4, .int a4)] → W p l e rm_X7_differentTerms s m args below meth c H locs 0 0 (QI cwl 40 G below args s Φ) (F0 m 27 ls []) := by
  intro n
  induction n with
  | zero => intro _ _ _ _ _ _ hq; exact hq.elim
  | succ n ih => intro _ _ _ _ _ _ hq hw hl; exact tb_X7_differentTerms_b27 hE hml hr hlk  ih hq hw hl
set_option maxRecDepth 20000 in
set_option maxHeartbeats 4000000 in
theorem c_X7_differentTerms {G : GG} (hJ : gJ 40 G) (l : Launch) (a2 : Int32) (σ : S9) (Φ : Int32 → S9 → Prop) (hq : wp_X7_differentTerms a2 σ Φ) : CI cwl 40 G l yX7_differentTerms cX7_differentTerms 5 (some .int) rm_X7_differentTerms [.ref (gAd G 10), .ref (gAd G 3), .int a2] σ Φ := by
  refine CI.intro (by decide) (Nat.le_of_ble_eq_true rfl) hJ ?_
  intro p e s m args below meth c ls hE hml hr hlk hw hl
  have hl : lv_has ls 5 [(0, .ref (gAd G 10)), (1, .ref (gAd G 3)), (2, .int a2)] := hl
  unfold wp_X7_differentTerms at hq
  refine lv_aload_n hE.1 hE.2.1 dX7_differentTerms_0 rfl (lv_at hl 0 rfl) ?_
  refine lv_iconst (v := (0 : Int32)) hE.1 hE.2.1 dX7_differentTerms_1 (by decide) ?_
  refine cpf_X7_29 hE hw dX7_differentTerms_2 (fun σ1 eσ1 H locs hw => ?_)
  have hq := hq σ1 eσ1
  refine lv_aload_n hE.1 hE.2.1 dX7_differentTerms_5 rfl (lv_at hl 0 rfl) ?_
  refine cgf_X7_25 hE hw dX7_differentTerms_6 ?_
  refine lv_iconst (v := (0 : Int32)) hE.1 hE.2.1 dX7_differentTerms_9 (by decide) ?_
  refine cpf_X7_33_11 hE hw dX7_differentTerms_10 (fun σ2 eσ2 H locs hw => ?_)
  have hq := hq σ2 eσ2
  refine lv_aload_n hE.1 hE.2.1 dX7_differentTerms_13 rfl (lv_at hl 1 rfl) ?_
  refine cgf_X7_36 hE hw dX7_differentTerms_14 ?_
  refine lv_iload_n hE.1 hE.2.1 dX7_differentTerms_17 rfl (lv_at hl 2 rfl) ?_
  obtain ⟨hi1, hq⟩ := hq
  refine cal_21 hE hw hi1 dX7_differentTerms_18 ?_
  refine lv_topi (fun x2 ex2 => ?_)
  have hq := hq x2 ex2
  refine lv_istore_n (lv' := [(3, .int x2), (0, .ref (gAd G 10)), (1, .ref (gAd G 3)), (2, .int a2)]) hE.1 hE.2.1 dX7_differentTerms_19 rfl hl (by decide) rfl (fun ls hl => ?_)
  refine lv_aload_n hE.1 hE.2.1 dX7_differentTerms_20 rfl (lv_at hl 2 rfl) ?_
  refine lv_iload_n hE.1 hE.2.1 dX7_differentTerms_21 rfl (lv_at hl 3 rfl) ?_
  refine clVi (rest := []) (As := [.int a2]) hE hml hl.1 hw (c_X6_codeStart hE.2.2.2.2.2 l _ _ _ hq) cu24 cu104 cu27 cu28 cu25 rfl (k := 1) (by decide +kernel) (by decide) (ci := 6) rfl (q0 := 3) rfl rfl rfl (Nat.le_of_ble_eq_true rfl) dX7_differentTerms_22 (by decide) (fun r3 σ3 hq H locs hw => ?_)
  refine lv_istore (lv' := [(4, .int r3), (3, .int x2), (0, .ref (gAd G 10)), (1, .ref (gAd G 3)), (2, .int a2)]) hE.1 hE.2.1 dX7_differentTerms_25 hl (by decide) rfl (fun ls hl => ?_)
  obtain ⟨nn, hq⟩ := hq
  exact tl_X7_differentTerms_b27 hE hml hr hlk  nn _ _ _ _ _ _ hq hw (lv_sub hl [2, 3, 1, 0] rfl)
/-! java/util/Arrays.fill([II)V -/
abbrev rm_J7_fill_53178_24 : Room := { frames := 0, cells := 0, slots := 0, locals := 0 }
def bd_J7_fill_53178_24_b5 (K5 : Int32 → Int32 → Int32 → S9 → Prop) (Φ : S9 → Prop) (a1 : Int32) (a2 : Int32) (a3 : Int32) (σ : S9) : Prop := (a3 ≤ a2 → Φ σ) ∧ (¬ a3 ≤ a2 → vp_in a2 27 ∧ ∀ σ1 : S9, σ1 = sA σ 12 (upd (σ.2.1 12) (a2).toNatClampNeg a1) → ∀ x3 : Int32, x3 = a2 + 1 → K5 a1 x3 a3 σ1)
def lp_J7_fill_53178_24_b5  (Φ : S9 → Prop) : Nat → Int32 → Int32 → Int32 → S9 → Prop
  | 0 => fun _ _ _ _ => False
  | n + 1 => bd_J7_fill_53178_24_b5  (lp_J7_fill_53178_24_b5  Φ n) Φ
def wp_J7_fill_53178_24 (a1 : Int32) (σ : S9) (Φ : S9 → Prop) : Prop := ∀ x1 : Int32, x1 = (0 : Int32) → ∀ x2 : Int32, x2 = (27 : Int32) → ∃ n : Nat, lp_J7_fill_53178_24_b5  Φ n a1 x1 x2 σ
set_option maxRecDepth 20000 in
set_option maxHeartbeats 4000000 in
theorem tb_J7_fill_53178_24_b5 {p : Program} {l : Launch} {e : Env} {s : State} {m : MethodId} {args : Array Value} {below : List Frame} {meth : Method} {c : Code} {G : GG} {Φ : S9 → Prop} {K5 : Int32 → Int32 → Int32 → S9 → Prop} (hE : Ev 40 G p s m args c cJ7_fill_53178 RJ7) (hml : c.maxLocals = 4) (hr : meth.sig.returnType = none) (hlk : meth.locks = false) (hK5 : ∀ (a1 : Int32) (a2 : Int32) (a3 : Int32) (σ : S9) (H : Heap) (locs : List Loc) (ls : Array Slot), K5 a1 a2 a3 σ → Pic cwl 40 G σ s.heap H locs → lv_has ls 4 [(0, .ref (gAd G 24)), (1, .int a1), (2, .int a2), (3, .int a3)] → W p l e rm_J7_fill_53178_24 s m args below meth c H locs 0 0 (QV cwl 40 G below args s Φ) (F0 m 5 ls [])) {a1 : Int32} {a2 : Int32} {a3 : Int32} {σ : S9} {H : Heap} {locs : List Loc} {ls : Array Slot} (hq : bd_J7_fill_53178_24_b5 K5 Φ a1 a2 a3 σ) (hw : Pic cwl 40 G σ s.heap H locs) (hl : lv_has ls 4 [(0, .ref (gAd G 24)), (1, .int a1), (2, .int a2), (3, .int a3)]) : W p l e rm_J7_fill_53178_24 s m args below meth c H locs 0 0 (QV cwl 40 G below args s Φ) (F0 m 5 ls []) := by
  unfold bd_J7_fill_53178_24_b5 at hq
  refine lv_iload_n hE.1 hE.2.1 dJ7_fill_53178_5 rfl (lv_at hl 2 rfl) ?_
  refine lv_iload_n hE.1 hE.2.1 dJ7_fill_53178_6 rfl (lv_at hl 3 rfl) ?_
  refine lv_icmp_ge (tgt := 20) hE.1 hE.2.1 dJ7_fill_53178_7 (by decide) (fun c1 => ?_) (fun c1 => ?_)
  · have hq := hq.1 c1
    exact rtV hE hr hlk hw hq dJ7_fill_53178_20
  · have hq := hq.2 c1
    refine lv_aload_n hE.1 hE.2.1 dJ7_fill_53178_10 rfl (lv_at hl 0 rfl) ?_
    refine lv_iload_n hE.1 hE.2.1 dJ7_fill_53178_11 rfl (lv_at hl 2 rfl) ?_
    refine lv_iload_n hE.1 hE.2.1 dJ7_fill_53178_12 rfl (lv_at hl 1 rfl) ?_
    obtain ⟨hi2, hq⟩ := hq
    refine cas_24 hE hw hi2 dJ7_fill_53178_13 (fun σ1 eσ1 H locs hw => ?_)
    have hq := hq σ1 eσ1
    obtain ⟨x3, ex3⟩ : ∃ y : Int32, y = a2 + 1 := ⟨_, rfl⟩
    have hq := hq x3 ex3
    refine lv_iinc (v := x3) (lv' := [(2, .int x3), (0, .ref (gAd G 24)), (1, .int a1), (3, .int a3)]) hE.1 hE.2.1 dJ7_fill_53178_14 hl (k := 2) rfl (by rw [ex3]; rfl) (by decide) rfl (fun ls hl => ?_)
    refine lv_goto (tgt := 5) hE.1 hE.2.1 dJ7_fill_53178_17 (by decide) ?_
    exact hK5 _ _ _ _ _ _ _ hq hw (lv_sub hl [1, 2, 0, 3] rfl)
theorem tl_J7_fill_53178_24_b5 {p : Program} {l : Launch} {e : Env} {s : State} {m : MethodId} {args : Array Value} {below : List Frame} {meth : Method} {c : Code} {G : GG} {Φ : S9 → Prop}  (hE : Ev 40 G p s m args c cJ7_fill_53178 RJ7) (hml : c.maxLocals = 4) (hr : meth.sig.returnType = none) (hlk : meth.locks = false)  : ∀ (n : Nat) (a1 : Int32) (a2 : Int32) (a3 : Int32) (σ : S9) (H : Heap) (locs : List Loc) (ls : Array Slot), lp_J7_fill_53178_24_b5  Φ n a1 a2 a3 σ → Pic cwl 40 G σ s.heap H locs → lv_has ls 4 [(0, .ref (gAd G 24)), (1, .int a1), (2, .int a2), (3, .int a3)] → W p l e rm_J7_fill_53178_24 s m args below meth c H locs 0 0 (QV cwl 40 G below args s Φ) (F0 m 5 ls []) := by
  intro n
  induction n with
  | zero => intro _ _ _ _ _ _ _ hq; exact hq.elim
  | succ n ih => intro _ _ _ _ _ _ _ hq hw hl; exact tb_J7_fill_53178_24_b5 hE hml hr hlk  ih hq hw hl
set_option maxRecDepth 20000 in
set_option maxHeartbeats 4000000 in
theorem c_J7_fill_53178_24 {G : GG} (hJ : gJ 40 G) (l : Launch) (a1 : Int32) (σ : S9) (Φ : S9 → Prop) (hq : wp_J7_fill_53178_24 a1 σ Φ) : CV cwl 40 G l yJ7_fill_53178 cJ7_fill_53178 4 rm_J7_fill_53178_24 [.ref (gAd G 24), .int a1] σ Φ := by
  refine CV.intro (by decide) (Nat.le_of_ble_eq_true rfl) hJ ?_
  intro p e s m args below meth c ls hE hml hr hlk hw hl
  have hl : lv_has ls 4 [(0, .ref (gAd G 24)), (1, .int a1)] := hl
  unfold wp_J7_fill_53178_24 at hq
  refine lv_iconst (v := (0 : Int32)) hE.1 hE.2.1 dJ7_fill_53178_0 (by decide) ?_
  refine lv_topi (fun x1 ex1 => ?_)
  have hq := hq x1 ex1
  refine lv_istore_n (lv' := [(2, .int x1), (0, .ref (gAd G 24)), (1, .int a1)]) hE.1 hE.2.1 dJ7_fill_53178_1 rfl hl (by decide) rfl (fun ls hl => ?_)
  refine lv_aload_n hE.1 hE.2.1 dJ7_fill_53178_2 rfl (lv_at hl 1 rfl) ?_
  refine cln_24 hE hw dJ7_fill_53178_3 ?_
  refine lv_topi (fun x2 ex2 => ?_)
  have hq := hq x2 ex2
  refine lv_istore_n (lv' := [(3, .int x2), (2, .int x1), (0, .ref (gAd G 24)), (1, .int a1)]) hE.1 hE.2.1 dJ7_fill_53178_4 rfl hl (by decide) rfl (fun ls hl => ?_)
  obtain ⟨nn, hq⟩ := hq
  exact tl_J7_fill_53178_24_b5 hE hml hr hlk  nn _ _ _ _ _ _ _ hq hw (lv_sub hl [2, 3, 1, 0] rfl)
/-! QueueBench$Program.empty()V -/
abbrev rm_X6_empty : Room := { frames := 1, cells := 0, slots := 0, locals := 23 }
def wp_X6_empty  (σ : S9) (Φ : S9 → Prop) : Prop := ∀ σ1 : S9, σ1 = sF σ 4 (0 : Int32) → ∀ σ2 : S9, σ2 = sF σ1 5 (0 : Int32) → wp_J7_fill_53178_24 (-1 : Int32) σ2 (fun σ3 => Φ σ3)
theorem dX6_empty_0 : decode cX6_empty 0 = .ok (.aload_n 0, 1) := by decide +kernel
theorem dX6_empty_1 : decode cX6_empty 1 = .ok (.iconst 0, 1) := by decide +kernel
theorem dX6_empty_2 : decode cX6_empty 2 = .ok (.putfield 46, 3) := by decide +kernel
theorem dX6_empty_5 : decode cX6_empty 5 = .ok (.aload_n 0, 1) := by decide +kernel
theorem dX6_empty_6 : decode cX6_empty 6 = .ok (.iconst 0, 1) := by decide +kernel
theorem dX6_empty_7 : decode cX6_empty 7 = .ok (.putfield 50, 3) := by decide +kernel
theorem dX6_empty_10 : decode cX6_empty 10 = .ok (.aload_n 0, 1) := by decide +kernel
theorem dX6_empty_11 : decode cX6_empty 11 = .ok (.getfield 43, 3) := by decide +kernel
theorem dX6_empty_14 : decode cX6_empty 14 = .ok (.iconst (-1), 1) := by decide +kernel
theorem dX6_empty_15 : decode cX6_empty 15 = .ok (.invokestatic 53, 3) := by decide +kernel
theorem dX6_empty_18 : decode cX6_empty 18 = .ok (.return_, 1) := by decide +kernel
set_option maxRecDepth 20000 in
set_option maxHeartbeats 4000000 in
theorem c_X6_empty {G : GG} (hJ : gJ 40 G) (l : Launch)  (σ : S9) (Φ : S9 → Prop) (hq : wp_X6_empty  σ Φ) : CV cwl 40 G l yX6_empty cX6_empty 1 rm_X6_empty [.ref (gAd G 3)] σ Φ := by
  refine CV.intro (by decide) (Nat.le_of_ble_eq_true rfl) hJ ?_
  intro p e s m args below meth c ls hE hml hr hlk hw hl
  have hl : lv_has ls 1 [(0, .ref (gAd G 3))] := hl
  unfold wp_X6_empty at hq
  refine lv_aload_n hE.1 hE.2.1 dX6_empty_0 rfl (lv_at hl 0 rfl) ?_
  refine lv_iconst (v := (0 : Int32)) hE.1 hE.2.1 dX6_empty_1 (by decide) ?_
  refine cpf_X6_46 hE hw dX6_empty_2 (fun σ1 eσ1 H locs hw => ?_)
  have hq := hq σ1 eσ1
  refine lv_aload_n hE.1 hE.2.1 dX6_empty_5 rfl (lv_at hl 0 rfl) ?_
  refine lv_iconst (v := (0 : Int32)) hE.1 hE.2.1 dX6_empty_6 (by decide) ?_
  refine cpf_X6_50 hE hw dX6_empty_7 (fun σ2 eσ2 H locs hw => ?_)
  have hq := hq σ2 eσ2
  refine lv_aload_n hE.1 hE.2.1 dX6_empty_10 rfl (lv_at hl 0 rfl) ?_
  refine cgf_X6_43 hE hw dX6_empty_11 ?_
  refine lv_iconst (v := (-1 : Int32)) hE.1 hE.2.1 dX6_empty_14 (by decide) ?_
  refine clSv (rest := []) (As := [.ref (gAd G 24), .int (-1 : Int32)]) hE hml hl.1 hw (c_J7_fill_53178_24 hE.2.2.2.2.2 l _ _ _ hq) cu9 cu126 cu12 cu10 (k := 2) (by decide +kernel) (by decide) rfl rfl (Nat.le_of_ble_eq_true rfl) dX6_empty_15 (by decide) (fun σ3 hq H locs hw => ?_)
  exact rtV hE hr hlk hw hq dX6_empty_18
/-! QueueBench$Compiler.reset()V -/
abbrev rm_X0_reset : Room := { frames := 2, cells := 0, slots := 0, locals := 43 }
def bd_X0_reset_b9 (K9 : Int32 → S9 → Prop) (Φ : S9 → Prop) (a1 : Int32) (σ : S9) : Prop := ((26 : Int32) ≤ a1 → ∀ σ1 : S9, σ1 = sF σ 6 (0 : Int32) → vp_in (0 : Int32) 21 ∧ ∀ σ2 : S9, σ2 = sA σ1 14 (upd (σ1.2.1 14) ((0 : Int32)).toNatClampNeg (-1 : Int32)) → vp_in (0 : Int32) 21 ∧ ∀ σ3 : S9, σ3 = sA σ2 16 (upd (σ2.2.1 16) ((0 : Int32)).toNatClampNeg (-1 : Int32)) → ∀ σ4 : S9, σ4 = sF σ3 7 (0 : Int32) → ∀ σ5 : S9, σ5 = sF σ4 8 (26 : Int32) → Φ σ5) ∧ (¬ (26 : Int32) ≤ a1 → vp_in a1 26 ∧ ∀ σ6 : S9, σ6 = sA σ 13 (upd (σ.2.1 13) (a1).toNatClampNeg (vp_nar .boolean (0 : Int32))) → ∀ x5 : Int32, x5 = a1 + 1 → K9 x5 σ6)
def lp_X0_reset_b9  (Φ : S9 → Prop) : Nat → Int32 → S9 → Prop
  | 0 => fun _ _ => False
  | n + 1 => bd_X0_reset_b9  (lp_X0_reset_b9  Φ n) Φ
def wp_X0_reset  (σ : S9) (Φ : S9 → Prop) : Prop := wp_X6_empty σ (fun σ1 => ∀ x1 : Int32, x1 = (0 : Int32) → ∃ n : Nat, lp_X0_reset_b9  Φ n x1 σ1)
theorem dX0_reset_0 : decode cX0_reset 0 = .ok (.aload_n 0, 1) := by decide +kernel
theorem dX0_reset_1 : decode cX0_reset 1 = .ok (.getfield 34, 3) := by decide +kernel
theorem dX0_reset_4 : decode cX0_reset 4 = .ok (.invokevirtual 80, 3) := by decide +kernel
theorem dX0_reset_7 : decode cX0_reset 7 = .ok (.iconst 0, 1) := by decide +kernel
theorem dX0_reset_8 : decode cX0_reset 8 = .ok (.istore_n 1, 1) := by decide +kernel
theorem dX0_reset_9 : decode cX0_reset 9 = .ok (.iload_n 1, 1) := by decide +kernel
theorem dX0_reset_10 : decode cX0_reset 10 = .ok (.bipush 26, 2) := by decide +kernel
theorem dX0_reset_12 : decode cX0_reset 12 = .ok (.if_icmp .ge 16, 3) := by decide +kernel
theorem dX0_reset_15 : decode cX0_reset 15 = .ok (.aload_n 0, 1) := by decide +kernel
theorem dX0_reset_16 : decode cX0_reset 16 = .ok (.getfield 9, 3) := by decide +kernel
theorem dX0_reset_19 : decode cX0_reset 19 = .ok (.iload_n 1, 1) := by decide +kernel
theorem dX0_reset_20 : decode cX0_reset 20 = .ok (.iconst 0, 1) := by decide +kernel
theorem dX0_reset_21 : decode cX0_reset 21 = .ok (.bastore, 1) := by decide +kernel
theorem dX0_reset_22 : decode cX0_reset 22 = .ok (.iinc 1 1, 3) := by decide +kernel
theorem dX0_reset_25 : decode cX0_reset 25 = .ok (.goto (-16), 3) := by decide +kernel
theorem dX0_reset_28 : decode cX0_reset 28 = .ok (.aload_n 0, 1) := by decide +kernel
theorem dX0_reset_29 : decode cX0_reset 29 = .ok (.iconst 0, 1) := by decide +kernel
theorem dX0_reset_30 : decode cX0_reset 30 = .ok (.putfield 83, 3) := by decide +kernel
theorem dX0_reset_33 : decode cX0_reset 33 = .ok (.aload_n 0, 1) := by decide +kernel
theorem dX0_reset_34 : decode cX0_reset 34 = .ok (.getfield 15, 3) := by decide +kernel
theorem dX0_reset_37 : decode cX0_reset 37 = .ok (.iconst 0, 1) := by decide +kernel
theorem dX0_reset_38 : decode cX0_reset 38 = .ok (.iconst (-1), 1) := by decide +kernel
theorem dX0_reset_39 : decode cX0_reset 39 = .ok (.iastore, 1) := by decide +kernel
theorem dX0_reset_40 : decode cX0_reset 40 = .ok (.aload_n 0, 1) := by decide +kernel
theorem dX0_reset_41 : decode cX0_reset 41 = .ok (.getfield 22, 3) := by decide +kernel
theorem dX0_reset_44 : decode cX0_reset 44 = .ok (.iconst 0, 1) := by decide +kernel
theorem dX0_reset_45 : decode cX0_reset 45 = .ok (.iconst (-1), 1) := by decide +kernel
theorem dX0_reset_46 : decode cX0_reset 46 = .ok (.iastore, 1) := by decide +kernel
theorem dX0_reset_47 : decode cX0_reset 47 = .ok (.aload_n 0, 1) := by decide +kernel
theorem dX0_reset_48 : decode cX0_reset 48 = .ok (.iconst 0, 1) := by decide +kernel
theorem dX0_reset_49 : decode cX0_reset 49 = .ok (.putfield 86, 3) := by decide +kernel
theorem dX0_reset_52 : decode cX0_reset 52 = .ok (.aload_n 0, 1) := by decide +kernel
theorem dX0_reset_53 : decode cX0_reset 53 = .ok (.bipush 26, 2) := by decide +kernel
theorem dX0_reset_55 : decode cX0_reset 55 = .ok (.putfield 89, 3) := by decide +kernel
theorem dX0_reset_58 : decode cX0_reset 58 = .ok (.return_, 1) := by decide +kernel
set_option maxRecDepth 20000 in
set_option maxHeartbeats 4000000 in
theorem tb_X0_reset_b9 {p : Program} {l : Launch} {e : Env} {s : State} {m : MethodId} {args : Array Value} {below : List Frame} {meth : Method} {c : Code} {G : GG} {Φ : S9 → Prop} {K9 : Int32 → S9 → Prop} (hE : Ev 40 G p s m args c cX0_reset RX0) (hml : c.maxLocals = 2) (hr : meth.sig.returnType = none) (hlk : meth.locks = false) (hK9 : ∀ (a1 : Int32) (σ : S9) (H : Heap) (locs : List Loc) (ls : Array Slot), K9 a1 σ → Pic cwl 40 G σ s.heap H locs → lv_has ls 2 [(0, .ref (gAd G 4)), (1, .int a1)] → W p l e rm_X0_reset s m args below meth c H locs 0 0 (QV cwl 40 G below args s Φ) (F0 m 9 ls [])) {a1 : Int32} {σ : S9} {H : Heap} {locs : List Loc} {ls : Array Slot} (hq : bd_X0_reset_b9 K9 Φ a1 σ) (hw : Pic cwl 40 G σ s.heap H locs) (hl : lv_has ls 2 [(0, .ref (gAd G 4)), (1, .int a1)]) : W p l e rm_X0_reset s m args below meth c H locs 0 0 (QV cwl 40 G below args s Φ) (F0 m 9 ls []) := by
  unfold bd_X0_reset_b9 at hq
  refine lv_iload_n hE.1 hE.2.1 dX0_reset_9 rfl (lv_at hl 1 rfl) ?_
  refine lv_bipush (v := (26 : Int32)) hE.1 hE.2.1 dX0_reset_10 (by decide) ?_
  refine lv_icmp_ge (tgt := 28) hE.1 hE.2.1 dX0_reset_12 (by decide) (fun c1 => ?_) (fun c1 => ?_)
  · have hq := hq.1 c1
    refine lv_aload_n hE.1 hE.2.1 dX0_reset_28 rfl (lv_at hl 0 rfl) ?_
    refine lv_iconst (v := (0 : Int32)) hE.1 hE.2.1 dX0_reset_29 (by decide) ?_
    refine cpf_X0_83 hE hw dX0_reset_30 (fun σ1 eσ1 H locs hw => ?_)
    have hq := hq σ1 eσ1
    refine lv_aload_n hE.1 hE.2.1 dX0_reset_33 rfl (lv_at hl 0 rfl) ?_
    refine cgf_X0_15 hE hw dX0_reset_34 ?_
    refine lv_iconst (v := (0 : Int32)) hE.1 hE.2.1 dX0_reset_37 (by decide) ?_
    refine lv_iconst (v := (-1 : Int32)) hE.1 hE.2.1 dX0_reset_38 (by decide) ?_
    obtain ⟨hi2, hq⟩ := hq
    refine cas_26 hE hw hi2 dX0_reset_39 (fun σ2 eσ2 H locs hw => ?_)
    have hq := hq σ2 eσ2
    refine lv_aload_n hE.1 hE.2.1 dX0_reset_40 rfl (lv_at hl 0 rfl) ?_
    refine cgf_X0_22 hE hw dX0_reset_41 ?_
    refine lv_iconst (v := (0 : Int32)) hE.1 hE.2.1 dX0_reset_44 (by decide) ?_
    refine lv_iconst (v := (-1 : Int32)) hE.1 hE.2.1 dX0_reset_45 (by decide) ?_
    obtain ⟨hi3, hq⟩ := hq
    refine cas_28 hE hw hi3 dX0_reset_46 (fun σ3 eσ3 H locs hw => ?_)
    have hq := hq σ3 eσ3
    refine lv_aload_n hE.1 hE.2.1 dX0_reset_47 rfl (lv_at hl 0 rfl) ?_
    refine lv_iconst (v := (0 : Int32)) hE.1 hE.2.1 dX0_reset_48 (by decide) ?_
    refine cpf_X0_86 hE hw dX0_reset_49 (fun σ4 eσ4 H locs hw => ?_)
    have hq := hq σ4 eσ4
    refine lv_aload_n hE.1 hE.2.1 dX0_reset_52 rfl (lv_at hl 0 rfl) ?_
    refine lv_bipush (v := (26 : Int32)) hE.1 hE.2.1 dX0_reset_53 (by decide) ?_
    refine cpf_X0_89 hE hw dX0_reset_55 (fun σ5 eσ5 H locs hw => ?_)
    have hq := hq σ5 eσ5
    exact rtV hE hr hlk hw hq dX0_reset_58
  · have hq := hq.2 c1
    refine lv_aload_n hE.1 hE.2.1 dX0_reset_15 rfl (lv_at hl 0 rfl) ?_
    refine cgf_X0_9 hE hw dX0_reset_16 ?_
    refine lv_iload_n hE.1 hE.2.1 dX0_reset_19 rfl (lv_at hl 1 rfl) ?_
    refine lv_iconst (v := (0 : Int32)) hE.1 hE.2.1 dX0_reset_20 (by decide) ?_
    obtain ⟨hi4, hq⟩ := hq
    refine cas_25 hE hw hi4 dX0_reset_21 (fun σ6 eσ6 H locs hw => ?_)
    have hq := hq σ6 eσ6
    obtain ⟨x5, ex5⟩ : ∃ y : Int32, y = a1 + 1 := ⟨_, rfl⟩
    have hq := hq x5 ex5
    refine lv_iinc (v := x5) (lv' := [(1, .int x5), (0, .ref (gAd G 4))]) hE.1 hE.2.1 dX0_reset_22 hl (k := 1) rfl (by rw [ex5]; rfl) (by decide) rfl (fun ls hl => ?_)
    refine lv_goto (tgt := 9) hE.1 hE.2.1 dX0_reset_25 (by decide) ?_
    exact hK9 _ _ _ _ _ hq hw (lv_sub hl [1, 0] rfl)
theorem tl_X0_reset_b9 {p : Program} {l : Launch} {e : Env} {s : State} {m : MethodId} {args : Array Value} {below : List Frame} {meth : Method} {c : Code} {G : GG} {Φ : S9 → Prop}  (hE : Ev 40 G p s m args c cX0_reset RX0) (hml : c.maxLocals = 2) (hr : meth.sig.returnType = none) (hlk : meth.locks = false)  : ∀ (n : Nat) (a1 : Int32) (σ : S9) (H : Heap) (locs : List Loc) (ls : Array Slot), lp_X0_reset_b9  Φ n a1 σ → Pic cwl 40 G σ s.heap H locs → lv_has ls 2 [(0, .ref (gAd G 4)), (1, .int a1)] → W p l e rm_X0_reset s m args below meth c H locs 0 0 (QV cwl 40 G below args s Φ) (F0 m 9 ls []) := by
  intro n
  induction n with
  | zero => intro _ _ _ _ _ hq; exact hq.elim
  | succ n ih => intro _ _ _ _ _ hq hw hl; exact tb_X0_reset_b9 hE hml hr hlk  ih hq hw hl
set_option maxRecDepth 20000 in
set_option maxHeartbeats 4000000 in
theorem c_X0_reset {G : GG} (hJ : gJ 40 G) (l : Launch)  (σ : S9) (Φ : S9 → Prop) (hq : wp_X0_reset  σ Φ) : CV cwl 40 G l yX0_reset cX0_reset 2 rm_X0_reset [.ref (gAd G 4)] σ Φ := by
  refine CV.intro (by decide) (Nat.le_of_ble_eq_true rfl) hJ ?_
  intro p e s m args below meth c ls hE hml hr hlk hw hl
  have hl : lv_has ls 2 [(0, .ref (gAd G 4))] := hl
  unfold wp_X0_reset at hq
  refine lv_aload_n hE.1 hE.2.1 dX0_reset_0 rfl (lv_at hl 0 rfl) ?_
  refine cgf_X0_34 hE hw dX0_reset_1 ?_
  refine clVv (rest := []) (As := []) hE hml hl.1 hw (c_X6_empty hE.2.2.2.2.2 l _ _ hq) cu127 cu128 cu129 cu130 cu25 rfl (k := 0) (by decide +kernel) (by decide) (ci := 6) rfl (q0 := 3) rfl rfl rfl (Nat.le_of_ble_eq_true rfl) dX0_reset_4 (by decide) (fun σ1 hq H locs hw => ?_)
  refine lv_iconst (v := (0 : Int32)) hE.1 hE.2.1 dX0_reset_7 (by decide) ?_
  refine lv_topi (fun x1 ex1 => ?_)
  have hq := hq x1 ex1
  refine lv_istore_n (lv' := [(1, .int x1), (0, .ref (gAd G 4))]) hE.1 hE.2.1 dX0_reset_8 rfl hl (by decide) rfl (fun ls hl => ?_)
  obtain ⟨nn, hq⟩ := hq
  exact tl_X0_reset_b9 hE hml hr hlk  nn _ _ _ _ _ hq hw (lv_sub hl [1, 0] rfl)
/-! QueueBench$Text.signAt(I)C -/
abbrev rm_X8_signAt : Room := { frames := 0, cells := 0, slots := 0, locals := 0 }
def wp_X8_signAt (a1 : Int32) (σ : S9) (Φ : Int32 → S9 → Prop) : Prop := (a1 < 0 → Φ (0 : Int32) σ) ∧ (¬ a1 < 0 → ((σ.1 2) ≤ a1 → Φ (0 : Int32) σ) ∧ (¬ (σ.1 2) ≤ a1 → vp_in a1 3000 ∧ narrow .char (.int (σ.2.1 0 (a1).toNatClampNeg)) = .int (σ.2.1 0 (a1).toNatClampNeg) ∧ Φ (σ.2.1 0 (a1).toNatClampNeg) σ))
theorem dX8_signAt_0 : decode cX8_signAt 0 = .ok (.iload_n 1, 1) := by decide +kernel
theorem dX8_signAt_1 : decode cX8_signAt 1 = .ok (.ifCond .lt 20, 3) := by decide +kernel
theorem dX8_signAt_4 : decode cX8_signAt 4 = .ok (.iload_n 1, 1) := by decide +kernel
theorem dX8_signAt_5 : decode cX8_signAt 5 = .ok (.aload_n 0, 1) := by decide +kernel
theorem dX8_signAt_6 : decode cX8_signAt 6 = .ok (.getfield 15, 3) := by decide +kernel
theorem dX8_signAt_9 : decode cX8_signAt 9 = .ok (.if_icmp .ge 12, 3) := by decide +kernel
theorem dX8_signAt_12 : decode cX8_signAt 12 = .ok (.aload_n 0, 1) := by decide +kernel
theorem dX8_signAt_13 : decode cX8_signAt 13 = .ok (.getfield 9, 3) := by decide +kernel
theorem dX8_signAt_16 : decode cX8_signAt 16 = .ok (.iload_n 1, 1) := by decide +kernel
theorem dX8_signAt_17 : decode cX8_signAt 17 = .ok (.caload, 1) := by decide +kernel
theorem dX8_signAt_18 : decode cX8_signAt 18 = .ok (.goto 4, 3) := by decide +kernel
theorem dX8_signAt_21 : decode cX8_signAt 21 = .ok (.iconst 0, 1) := by decide +kernel
theorem dX8_signAt_22 : decode cX8_signAt 22 = .ok (.ireturn, 1) := by decide +kernel
set_option maxRecDepth 20000 in
set_option maxHeartbeats 4000000 in
theorem c_X8_signAt {G : GG} (hJ : gJ 40 G) (l : Launch) (a1 : Int32) (σ : S9) (Φ : Int32 → S9 → Prop) (hq : wp_X8_signAt a1 σ Φ) : CI cwl 40 G l yX8_signAt cX8_signAt 2 (some .char) rm_X8_signAt [.ref (gAd G 1), .int a1] σ Φ := by
  refine CI.intro (by decide) (Nat.le_of_ble_eq_true rfl) hJ ?_
  intro p e s m args below meth c ls hE hml hr hlk hw hl
  have hl : lv_has ls 2 [(0, .ref (gAd G 1)), (1, .int a1)] := hl
  unfold wp_X8_signAt at hq
  refine lv_iload_n hE.1 hE.2.1 dX8_signAt_0 rfl (lv_at hl 1 rfl) ?_
  refine lv_if_lt (tgt := 21) hE.1 hE.2.1 dX8_signAt_1 (by decide) (fun c1 => ?_) (fun c1 => ?_)
  · have hq := hq.1 c1
    refine lv_iconst (v := (0 : Int32)) hE.1 hE.2.1 dX8_signAt_21 (by decide) ?_
    exact rtZ hE hr hlk rfl hw hq dX8_signAt_22
  · have hq := hq.2 c1
    refine lv_iload_n hE.1 hE.2.1 dX8_signAt_4 rfl (lv_at hl 1 rfl) ?_
    refine lv_aload_n hE.1 hE.2.1 dX8_signAt_5 rfl (lv_at hl 0 rfl) ?_
    refine cgf_X8_15 hE hw dX8_signAt_6 ?_
    refine lv_icmp_ge (tgt := 21) hE.1 hE.2.1 dX8_signAt_9 (by decide) (fun c2 => ?_) (fun c2 => ?_)
    · have hq := hq.1 c2
      refine lv_iconst (v := (0 : Int32)) hE.1 hE.2.1 dX8_signAt_21 (by decide) ?_
      exact rtZ hE hr hlk rfl hw hq dX8_signAt_22
    · have hq := hq.2 c2
      refine lv_aload_n hE.1 hE.2.1 dX8_signAt_12 rfl (lv_at hl 0 rfl) ?_
      refine cgf_X8_9 hE hw dX8_signAt_13 ?_
      refine lv_iload_n hE.1 hE.2.1 dX8_signAt_16 rfl (lv_at hl 1 rfl) ?_
      obtain ⟨hi3, hq⟩ := hq
      refine cal_12 hE hw hi3 dX8_signAt_17 ?_
      refine lv_goto (tgt := 22) hE.1 hE.2.1 dX8_signAt_18 (by decide) ?_
      exact rtZ hE hr hlk hq.1 hw hq.2 dX8_signAt_22
/-! QueueBench$Text.isBlank(C)Z -/
abbrev rm_X8_isBlank : Room := { frames := 0, cells := 0, slots := 0, locals := 0 }
def wp_X8_isBlank (a0 : Int32) (σ : S9) (Φ : Int32 → S9 → Prop) : Prop := (a0 = (32 : Int32) → Φ (1 : Int32) σ) ∧ (¬ a0 = (32 : Int32) → (a0 = (10 : Int32) → Φ (1 : Int32) σ) ∧ (¬ a0 = (10 : Int32) → Φ (0 : Int32) σ))
theorem dX8_isBlank_0 : decode cX8_isBlank 0 = .ok (.iload_n 0, 1) := by decide +kernel
theorem dX8_isBlank_1 : decode cX8_isBlank 1 = .ok (.bipush 32, 2) := by decide +kernel
theorem dX8_isBlank_3 : decode cX8_isBlank 3 = .ok (.if_icmp .eq 9, 3) := by decide +kernel
theorem dX8_isBlank_6 : decode cX8_isBlank 6 = .ok (.iload_n 0, 1) := by decide +kernel
theorem dX8_isBlank_7 : decode cX8_isBlank 7 = .ok (.bipush 10, 2) := by decide +kernel
theorem dX8_isBlank_9 : decode cX8_isBlank 9 = .ok (.if_icmp .ne 7, 3) := by decide +kernel
theorem dX8_isBlank_12 : decode cX8_isBlank 12 = .ok (.iconst 1, 1) := by decide +kernel
theorem dX8_isBlank_13 : decode cX8_isBlank 13 = .ok (.goto 4, 3) := by decide +kernel
theorem dX8_isBlank_16 : decode cX8_isBlank 16 = .ok (.iconst 0, 1) := by decide +kernel
theorem dX8_isBlank_17 : decode cX8_isBlank 17 = .ok (.ireturn, 1) := by decide +kernel
set_option maxRecDepth 20000 in
set_option maxHeartbeats 4000000 in
theorem c_X8_isBlank {G : GG} (hJ : gJ 40 G) (l : Launch) (a0 : Int32) (σ : S9) (Φ : Int32 → S9 → Prop) (hq : wp_X8_isBlank a0 σ Φ) : CI cwl 40 G l yX8_isBlank cX8_isBlank 1 (some .boolean) rm_X8_isBlank [.int a0] σ Φ := by
  refine CI.intro (by decide) (Nat.le_of_ble_eq_true rfl) hJ ?_
  intro p e s m args below meth c ls hE hml hr hlk hw hl
  have hl : lv_has ls 1 [(0, .int a0)] := hl
  unfold wp_X8_isBlank at hq
  refine lv_iload_n hE.1 hE.2.1 dX8_isBlank_0 rfl (lv_at hl 0 rfl) ?_
  refine lv_bipush (v := (32 : Int32)) hE.1 hE.2.1 dX8_isBlank_1 (by decide) ?_
  refine lv_icmp_eq (tgt := 12) hE.1 hE.2.1 dX8_isBlank_3 (by decide) (fun c1 => ?_) (fun c1 => ?_)
  · have hq := hq.1 c1
    refine lv_iconst (v := (1 : Int32)) hE.1 hE.2.1 dX8_isBlank_12 (by decide) ?_
    refine lv_goto (tgt := 17) hE.1 hE.2.1 dX8_isBlank_13 (by decide) ?_
    exact rtZ hE hr hlk rfl hw hq dX8_isBlank_17
  · have hq := hq.2 c1
    refine lv_iload_n hE.1 hE.2.1 dX8_isBlank_6 rfl (lv_at hl 0 rfl) ?_
    refine lv_bipush (v := (10 : Int32)) hE.1 hE.2.1 dX8_isBlank_7 (by decide) ?_
    refine lv_icmp_ne (tgt := 16) hE.1 hE.2.1 dX8_isBlank_9 (by decide) (fun c2 => ?_) (fun c2 => ?_)
    · have hq := hq.2 c2
      refine lv_iconst (v := (0 : Int32)) hE.1 hE.2.1 dX8_isBlank_16 (by decide) ?_
      exact rtZ hE hr hlk rfl hw hq dX8_isBlank_17
    · have hq := hq.1 c2
      refine lv_iconst (v := (1 : Int32)) hE.1 hE.2.1 dX8_isBlank_12 (by decide) ?_
      refine lv_goto (tgt := 17) hE.1 hE.2.1 dX8_isBlank_13 (by decide) ?_
      exact rtZ hE hr hlk rfl hw hq dX8_isBlank_17
/-! QueueBench$Text.wordFrom(I)I -/
abbrev rm_X8_wordFrom : Room := { frames := 1, cells := 0, slots := 0, locals := 21 }
def bd_X8_wordFrom_b2 (K2 : Int32 → S9 → Prop) (Φ : Int32 → S9 → Prop) (a2 : Int32) (σ : S9) : Prop := ((σ.1 2) ≤ a2 → Φ a2 σ) ∧ (¬ (σ.1 2) ≤ a2 → wp_X8_signAt a2 σ (fun r2 σ1 => wp_X8_isBlank r2 σ1 (fun r3 σ2 => (r3 = 0 → Φ a2 σ2) ∧ (¬ r3 = 0 → ∀ x5 : Int32, x5 = a2 + 1 → K2 x5 σ2))))
def lp_X8_wordFrom_b2  (Φ : Int32 → S9 → Prop) : Nat → Int32 → S9 → Prop
  | 0 => fun _ _ => False
  | n + 1 => bd_X8_wordFrom_b2  (lp_X8_wordFrom_b2  Φ n) Φ
def wp_X8_wordFrom (a1 : Int32) (σ : S9) (Φ : Int32 → S9 → Prop) : Prop := ∃ n : Nat, lp_X8_wordFrom_b2  Φ n a1 σ
theorem dX8_wordFrom_0 : decode cX8_wordFrom 0 = .ok (.iload_n 1, 1) := by decide +kernel
theorem dX8_wordFrom_1 : decode cX8_wordFrom 1 = .ok (.istore_n 2, 1) := by decide +kernel
theorem dX8_wordFrom_2 : decode cX8_wordFrom 2 = .ok (.iload_n 2, 1) := by decide +kernel
theorem dX8_wordFrom_3 : decode cX8_wordFrom 3 = .ok (.aload_n 0, 1) := by decide +kernel
theorem dX8_wordFrom_4 : decode cX8_wordFrom 4 = .ok (.getfield 15, 3) := by decide +kernel
theorem dX8_wordFrom_7 : decode cX8_wordFrom 7 = .ok (.if_icmp .ge 20, 3) := by decide +kernel
theorem dX8_wordFrom_10 : decode cX8_wordFrom 10 = .ok (.aload_n 0, 1) := by decide +kernel
theorem dX8_wordFrom_11 : decode cX8_wordFrom 11 = .ok (.iload_n 2, 1) := by decide +kernel
theorem dX8_wordFrom_12 : decode cX8_wordFrom 12 = .ok (.invokevirtual 19, 3) := by decide +kernel
theorem dX8_wordFrom_15 : decode cX8_wordFrom 15 = .ok (.invokestatic 23, 3) := by decide +kernel
theorem dX8_wordFrom_18 : decode cX8_wordFrom 18 = .ok (.ifCond .eq 9, 3) := by decide +kernel
theorem dX8_wordFrom_21 : decode cX8_wordFrom 21 = .ok (.iinc 2 1, 3) := by decide +kernel
theorem dX8_wordFrom_24 : decode cX8_wordFrom 24 = .ok (.goto (-22), 3) := by decide +kernel
theorem dX8_wordFrom_27 : decode cX8_wordFrom 27 = .ok (.iload_n 2, 1) := by decide +kernel
theorem dX8_wordFrom_28 : decode cX8_wordFrom 28 = .ok (.ireturn, 1) := by decide +kernel
set_option maxRecDepth 20000 in
set_option maxHeartbeats 4000000 in
theorem tb_X8_wordFrom_b2 {p : Program} {l : Launch} {e : Env} {s : State} {m : MethodId} {args : Array Value} {below : List Frame} {meth : Method} {c : Code} {G : GG} {Φ : Int32 → S9 → Prop} {K2 : Int32 → S9 → Prop} (hE : Ev 40 G p s m args c cX8_wordFrom RX8) (hml : c.maxLocals = 3) (hr : meth.sig.returnType = (some .int)) (hlk : meth.locks = false) (hK2 : ∀ (a2 : Int32) (σ : S9) (H : Heap) (locs : List Loc) (ls : Array Slot), K2 a2 σ → Pic cwl 40 G σ s.heap H locs → lv_has ls 3 [(0, .ref (gAd G 1)), (2, .int a2)] → W p l e rm_X8_wordFrom s m args below meth c H locs 0 0 (QI cwl 40 G below args s Φ) (F0 m 2 ls [])) {a2 : Int32} {σ : S9} {H : Heap} {locs : List Loc} {ls : Array Slot} (hq : bd_X8_wordFrom_b2 K2 Φ a2 σ) (hw : Pic cwl 40 G σ s.heap H locs) (hl : lv_has ls 3 [(0, .ref (gAd G 1)), (2, .int a2)]) : W p l e rm_X8_wordFrom s m args below meth c H locs 0 0 (QI cwl 40 G below args s Φ) (F0 m 2 ls []) := by
  unfold bd_X8_wordFrom_b2 at hq
  refine lv_iload_n hE.1 hE.2.1 dX8_wordFrom_2 rfl (lv_at hl 1 rfl) ?_
  refine lv_aload_n hE.1 hE.2.1 dX8_wordFrom_3 rfl (lv_at hl 0 rfl) ?_
  refine cgf_X8_15 hE hw dX8_wordFrom_4 ?_
  refine lv_icmp_ge (tgt := 27) hE.1 hE.2.1 dX8_wordFrom_7 (by decide) (fun c1 => ?_) (fun c1 => ?_)
  · have hq := hq.1 c1
    refine lv_iload_n hE.1 hE.2.1 dX8_wordFrom_27 rfl (lv_at hl 1 rfl) ?_
    exact rtI hE hr hlk hw hq dX8_wordFrom_28
  · have hq := hq.2 c1
    refine lv_aload_n hE.1 hE.2.1 dX8_wordFrom_10 rfl (lv_at hl 0 rfl) ?_
    refine lv_iload_n hE.1 hE.2.1 dX8_wordFrom_11 rfl (lv_at hl 1 rfl) ?_
    refine clVi (rest := []) (As := [.int a2]) hE hml hl.1 hw (c_X8_signAt hE.2.2.2.2.2 l _ _ _ hq) cu145 cu147 cu148 cu149 cu146 rfl (k := 1) (by decide +kernel) (by decide) (ci := 8) rfl (q0 := 1) rfl rfl rfl (Nat.le_of_ble_eq_true rfl) dX8_wordFrom_12 (by decide) (fun r2 σ1 hq H locs hw => ?_)
    refine clSi (rest := []) (As := [.int r2]) hE hml hl.1 hw (c_X8_isBlank hE.2.2.2.2.2 l _ _ _ hq) cu150 cu151 cu152 cu146 (k := 1) (by decide +kernel) (by decide) rfl rfl (Nat.le_of_ble_eq_true rfl) dX8_wordFrom_15 (by decide) (fun r3 σ2 hq H locs hw => ?_)
    refine lv_if_eq (tgt := 27) hE.1 hE.2.1 dX8_wordFrom_18 (by decide) (fun c4 => ?_) (fun c4 => ?_)
    · have hq := hq.1 c4
      refine lv_iload_n hE.1 hE.2.1 dX8_wordFrom_27 rfl (lv_at hl 1 rfl) ?_
      exact rtI hE hr hlk hw hq dX8_wordFrom_28
    · have hq := hq.2 c4
      obtain ⟨x5, ex5⟩ : ∃ y : Int32, y = a2 + 1 := ⟨_, rfl⟩
      have hq := hq x5 ex5
      refine lv_iinc (v := x5) (lv' := [(2, .int x5), (0, .ref (gAd G 1))]) hE.1 hE.2.1 dX8_wordFrom_21 hl (k := 1) rfl (by rw [ex5]; rfl) (by decide) rfl (fun ls hl => ?_)
      refine lv_goto (tgt := 2) hE.1 hE.2.1 dX8_wordFrom_24 (by decide) ?_
      exact hK2 _ _ _ _ _ hq hw (lv_sub hl [1, 0] rfl)
theorem tl_X8_wordFrom_b2 {p : Program} {l : Launch} {e : Env} {s : State} {m : MethodId} {args : Array Value} {below : List Frame} {meth : Method} {c : Code} {G : GG} {Φ : Int32 → S9 → Prop}  (hE : Ev 40 G p s m args c cX8_wordFrom RX8) (hml : c.maxLocals = 3) (hr : meth.sig.returnType = (some .int)) (hlk : meth.locks = false)  : ∀ (n : Nat) (a2 : Int32) (σ : S9) (H : Heap) (locs : List Loc) (ls : Array Slot), lp_X8_wordFrom_b2  Φ n a2 σ → Pic cwl 40 G σ s.heap H locs → lv_has ls 3 [(0, .ref (gAd G 1)), (2, .int a2)] → W p l e rm_X8_wordFrom s m args below meth c H locs 0 0 (QI cwl 40 G below args s Φ) (F0 m 2 ls []) := by
  intro n
  induction n with
  | zero => intro _ _ _ _ _ hq; exact hq.elim
  | succ n ih => intro _ _ _ _ _ hq hw hl; exact tb_X8_wordFrom_b2 hE hml hr hlk  ih hq hw hl
set_option maxRecDepth 20000 in
set_option maxHeartbeats 4000000 in
theorem c_X8_wordFrom {G : GG} (hJ : gJ 40 G) (l : Launch) (a1 : Int32) (σ : S9) (Φ : Int32 → S9 → Prop) (hq : wp_X8_wordFrom a1 σ Φ) : CI cwl 40 G l yX8_wordFrom cX8_wordFrom 3 (some .int) rm_X8_wordFrom [.ref (gAd G 1), .int a1] σ Φ := by
  refine CI.intro (by decide) (Nat.le_of_ble_eq_true rfl) hJ ?_
  intro p e s m args below meth c ls hE hml hr hlk hw hl
  have hl : lv_has ls 3 [(0, .ref (gAd G 1)), (1, .int a1)] := hl
  unfold wp_X8_wordFrom at hq
  refine lv_iload_n hE.1 hE.2.1 dX8_wordFrom_0 rfl (lv_at hl 1 rfl) ?_
  refine lv_istore_n (lv' := [(2, .int a1), (0, .ref (gAd G 1)), (1, .int a1)]) hE.1 hE.2.1 dX8_wordFrom_1 rfl hl (by decide) rfl (fun ls hl => ?_)
  obtain ⟨nn, hq⟩ := hq
  exact tl_X8_wordFrom_b2 hE hml hr hlk  nn _ _ _ _ _ hq hw (lv_sub hl [1, 0] rfl)
/-! QueueBench.isDigit(C)Z -/
abbrev rm_X10_isDigit : Room := { frames := 0, cells := 0, slots := 0, locals := 0 }
def wp_X10_isDigit (a0 : Int32) (σ : S9) (Φ : Int32 → S9 → Prop) : Prop := (a0 < (48 : Int32) → Φ (0 : Int32) σ) ∧ (¬ a0 < (48 : Int32) → ((57 : Int32) < a0 → Φ (0 : Int32) σ) ∧ (¬ (57 : Int32) < a0 → Φ (1 : Int32) σ))
theorem dX10_isDigit_0 : decode cX10_isDigit 0 = .ok (.iload_n 0, 1) := by decide +kernel
theorem dX10_isDigit_1 : decode cX10_isDigit 1 = .ok (.bipush 48, 2) := by decide +kernel
theorem dX10_isDigit_3 : decode cX10_isDigit 3 = .ok (.if_icmp .lt 13, 3) := by decide +kernel
theorem dX10_isDigit_6 : decode cX10_isDigit 6 = .ok (.iload_n 0, 1) := by decide +kernel
theorem dX10_isDigit_7 : decode cX10_isDigit 7 = .ok (.bipush 57, 2) := by decide +kernel
theorem dX10_isDigit_9 : decode cX10_isDigit 9 = .ok (.if_icmp .gt 7, 3) := by decide +kernel
theorem dX10_isDigit_12 : decode cX10_isDigit 12 = .ok (.iconst 1, 1) := by decide +kernel
theorem dX10_isDigit_13 : decode cX10_isDigit 13 = .ok (.goto 4, 3) := by decide +kernel
theorem dX10_isDigit_16 : decode cX10_isDigit 16 = .ok (.iconst 0, 1) := by decide +kernel
theorem dX10_isDigit_17 : decode cX10_isDigit 17 = .ok (.ireturn, 1) := by decide +kernel
set_option maxRecDepth 20000 in
set_option maxHeartbeats 4000000 in
theorem c_X10_isDigit {G : GG} (hJ : gJ 40 G) (l : Launch) (a0 : Int32) (σ : S9) (Φ : Int32 → S9 → Prop) (hq : wp_X10_isDigit a0 σ Φ) : CI cwl 40 G l yX10_isDigit cX10_isDigit 1 (some .boolean) rm_X10_isDigit [.int a0] σ Φ := by
  refine CI.intro (by decide) (Nat.le_of_ble_eq_true rfl) hJ ?_
  intro p e s m args below meth c ls hE hml hr hlk hw hl
  have hl : lv_has ls 1 [(0, .int a0)] := hl
  unfold wp_X10_isDigit at hq
  refine lv_iload_n hE.1 hE.2.1 dX10_isDigit_0 rfl (lv_at hl 0 rfl) ?_
  refine lv_bipush (v := (48 : Int32)) hE.1 hE.2.1 dX10_isDigit_1 (by decide) ?_
  refine lv_icmp_lt (tgt := 16) hE.1 hE.2.1 dX10_isDigit_3 (by decide) (fun c1 => ?_) (fun c1 => ?_)
  · have hq := hq.1 c1
    refine lv_iconst (v := (0 : Int32)) hE.1 hE.2.1 dX10_isDigit_16 (by decide) ?_
    exact rtZ hE hr hlk rfl hw hq dX10_isDigit_17
  · have hq := hq.2 c1
    refine lv_iload_n hE.1 hE.2.1 dX10_isDigit_6 rfl (lv_at hl 0 rfl) ?_
    refine lv_bipush (v := (57 : Int32)) hE.1 hE.2.1 dX10_isDigit_7 (by decide) ?_
    refine lv_icmp_gt (tgt := 16) hE.1 hE.2.1 dX10_isDigit_9 (by decide) (fun c2 => ?_) (fun c2 => ?_)
    · have hq := hq.1 c2
      refine lv_iconst (v := (0 : Int32)) hE.1 hE.2.1 dX10_isDigit_16 (by decide) ?_
      exact rtZ hE hr hlk rfl hw hq dX10_isDigit_17
    · have hq := hq.2 c2
      refine lv_iconst (v := (1 : Int32)) hE.1 hE.2.1 dX10_isDigit_12 (by decide) ?_
      refine lv_goto (tgt := 17) hE.1 hE.2.1 dX10_isDigit_13 (by decide) ?_
      exact rtZ hE hr hlk rfl hw hq dX10_isDigit_17
/-! QueueBench$Words.isTooGreat()Z -/
abbrev rm_X9_isTooGreat : Room := { frames := 0, cells := 0, slots := 0, locals := 0 }
def wp_X9_isTooGreat  (σ : S9) (Φ : Int32 → S9 → Prop) : Prop := ((lg_cmp (σ.2.2) (2147483647 : Int64)) ≤ 0 → Φ (0 : Int32) σ) ∧ (¬ (lg_cmp (σ.2.2) (2147483647 : Int64)) ≤ 0 → Φ (1 : Int32) σ)
theorem dX9_isTooGreat_0 : decode cX9_isTooGreat 0 = .ok (.aload_n 0, 1) := by decide +kernel
theorem dX9_isTooGreat_1 : decode cX9_isTooGreat 1 = .ok (.getfield 46, 3) := by decide +kernel
theorem dX9_isTooGreat_4 : decode cX9_isTooGreat 4 = .ok (.ldc2_w 50, 3) := by decide +kernel
theorem dX9_isTooGreat_7 : decode cX9_isTooGreat 7 = .ok (.lcmp, 1) := by decide +kernel
theorem dX9_isTooGreat_8 : decode cX9_isTooGreat 8 = .ok (.ifCond .le 7, 3) := by decide +kernel
theorem dX9_isTooGreat_11 : decode cX9_isTooGreat 11 = .ok (.iconst 1, 1) := by decide +kernel
theorem dX9_isTooGreat_12 : decode cX9_isTooGreat 12 = .ok (.goto 4, 3) := by decide +kernel
theorem dX9_isTooGreat_15 : decode cX9_isTooGreat 15 = .ok (.iconst 0, 1) := by decide +kernel
theorem dX9_isTooGreat_16 : decode cX9_isTooGreat 16 = .ok (.ireturn, 1) := by decide +kernel
set_option maxRecDepth 20000 in
set_option maxHeartbeats 4000000 in
theorem c_X9_isTooGreat {G : GG} (hJ : gJ 40 G) (l : Launch)  (σ : S9) (Φ : Int32 → S9 → Prop) (hq : wp_X9_isTooGreat  σ Φ) : CI cwl 40 G l yX9_isTooGreat cX9_isTooGreat 1 (some .boolean) rm_X9_isTooGreat [.ref (gAd G 5)] σ Φ := by
  refine CI.intro (by decide) (Nat.le_of_ble_eq_true rfl) hJ ?_
  intro p e s m args below meth c ls hE hml hr hlk hw hl
  have hl : lv_has ls 1 [(0, .ref (gAd G 5))] := hl
  unfold wp_X9_isTooGreat at hq
  refine lv_aload_n hE.1 hE.2.1 dX9_isTooGreat_0 rfl (lv_at hl 0 rfl) ?_
  refine cgf_X9_46 hE hw dX9_isTooGreat_1 ?_
  refine lv_ldc2 (v := 2147483647) hE.1 hE.2.1 hE.2.2.1 (hE.2.2.2.1 _ cu163) dX9_isTooGreat_4 ?_
  refine W.lcmp hE.1 hE.2.1 dX9_isTooGreat_7 ?_
  refine lv_if_le (tgt := 15) hE.1 hE.2.1 dX9_isTooGreat_8 (by decide) (fun c1 => ?_) (fun c1 => ?_)
  · have hq := hq.1 c1
    refine lv_iconst (v := (0 : Int32)) hE.1 hE.2.1 dX9_isTooGreat_15 (by decide) ?_
    exact rtZ hE hr hlk rfl hw hq dX9_isTooGreat_16
  · have hq := hq.2 c1
    refine lv_iconst (v := (1 : Int32)) hE.1 hE.2.1 dX9_isTooGreat_11 (by decide) ?_
    refine lv_goto (tgt := 16) hE.1 hE.2.1 dX9_isTooGreat_12 (by decide) ?_
    exact rtZ hE hr hlk rfl hw hq dX9_isTooGreat_16
/-! QueueBench$Words.readNumber()V -/
abbrev rm_X9_readNumber : Room := { frames := 1, cells := 0, slots := 0, locals := 21 }
def bd_X9_readNumber_b12 (K12 : S9 → Prop) (Φ : S9 → Prop)  (σ : S9) : Prop := ((σ.1 2) ≤ (σ.1 11) → ∀ σ1 : S9, σ1 = sF σ 12 (48 : Int32) → Φ σ1) ∧ (¬ (σ.1 2) ≤ (σ.1 11) → wp_X8_signAt (σ.1 11) σ (fun r2 σ2 => wp_X10_isDigit r2 σ2 (fun r3 σ3 => (r3 = 0 → ∀ σ4 : S9, σ4 = sF σ3 12 (48 : Int32) → Φ σ4) ∧ (¬ r3 = 0 → wp_X9_isTooGreat σ3 (fun r5 σ5 => (r5 = 0 → wp_X8_signAt (σ5.1 11) σ5 (fun r7 σ7 => ∀ σ8 : S9, σ8 = sL σ7 (((σ5.2.2) * (10 : Int64)) + (((r7 - (48 : Int32))).toInt64)) → ∀ σ9 : S9, σ9 = sF σ8 11 ((σ8.1 11) + (1 : Int32)) → K12 σ9)) ∧ (¬ r5 = 0 → ∀ σ6 : S9, σ6 = sF σ5 11 ((σ5.1 11) + (1 : Int32)) → K12 σ6))))))
def lp_X9_readNumber_b12  (Φ : S9 → Prop) : Nat → S9 → Prop
  | 0 => fun _ => False
  | n + 1 => bd_X9_readNumber_b12  (lp_X9_readNumber_b12  Φ n) Φ
def wp_X9_readNumber  (σ : S9) (Φ : S9 → Prop) : Prop := ∀ σ1 : S9, σ1 = sL σ ((((σ.1 12) - (48 : Int32))).toInt64) → ∃ n : Nat, lp_X9_readNumber_b12  Φ n σ1
theorem dX9_readNumber_0 : decode cX9_readNumber 0 = .ok (.aload_n 0, 1) := by decide +kernel
theorem dX9_readNumber_1 : decode cX9_readNumber 1 = .ok (.aload_n 0, 1) := by decide +kernel
theorem dX9_readNumber_2 : decode cX9_readNumber 2 = .ok (.getfield 35, 3) := by decide +kernel
theorem dX9_readNumber_5 : decode cX9_readNumber 5 = .ok (.bipush 48, 2) := by decide +kernel
theorem dX9_readNumber_7 : decode cX9_readNumber 7 = .ok (.isub, 1) := by decide +kernel
theorem dX9_readNumber_8 : decode cX9_readNumber 8 = .ok (.i2l, 1) := by decide +kernel
theorem dX9_readNumber_9 : decode cX9_readNumber 9 = .ok (.putfield 46, 3) := by decide +kernel
theorem dX9_readNumber_12 : decode cX9_readNumber 12 = .ok (.aload_n 0, 1) := by decide +kernel
theorem dX9_readNumber_13 : decode cX9_readNumber 13 = .ok (.getfield 15, 3) := by decide +kernel
theorem dX9_readNumber_16 : decode cX9_readNumber 16 = .ok (.aload_n 0, 1) := by decide +kernel
theorem dX9_readNumber_17 : decode cX9_readNumber 17 = .ok (.getfield 9, 3) := by decide +kernel
theorem dX9_readNumber_20 : decode cX9_readNumber 20 = .ok (.getfield 52, 3) := by decide +kernel
theorem dX9_readNumber_23 : decode cX9_readNumber 23 = .ok (.if_icmp .ge 68, 3) := by decide +kernel
theorem dX9_readNumber_26 : decode cX9_readNumber 26 = .ok (.aload_n 0, 1) := by decide +kernel
theorem dX9_readNumber_27 : decode cX9_readNumber 27 = .ok (.getfield 9, 3) := by decide +kernel
theorem dX9_readNumber_30 : decode cX9_readNumber 30 = .ok (.aload_n 0, 1) := by decide +kernel
theorem dX9_readNumber_31 : decode cX9_readNumber 31 = .ok (.getfield 15, 3) := by decide +kernel
theorem dX9_readNumber_34 : decode cX9_readNumber 34 = .ok (.invokevirtual 31, 3) := by decide +kernel
theorem dX9_readNumber_37 : decode cX9_readNumber 37 = .ok (.invokestatic 39, 3) := by decide +kernel
theorem dX9_readNumber_40 : decode cX9_readNumber 40 = .ok (.ifCond .eq 51, 3) := by decide +kernel
theorem dX9_readNumber_43 : decode cX9_readNumber 43 = .ok (.aload_n 0, 1) := by decide +kernel
theorem dX9_readNumber_44 : decode cX9_readNumber 44 = .ok (.invokevirtual 55, 3) := by decide +kernel
theorem dX9_readNumber_47 : decode cX9_readNumber 47 = .ok (.ifCond .ne 31, 3) := by decide +kernel
theorem dX9_readNumber_50 : decode cX9_readNumber 50 = .ok (.aload_n 0, 1) := by decide +kernel
theorem dX9_readNumber_51 : decode cX9_readNumber 51 = .ok (.aload_n 0, 1) := by decide +kernel
theorem dX9_readNumber_52 : decode cX9_readNumber 52 = .ok (.getfield 46, 3) := by decide +kernel
theorem dX9_readNumber_55 : decode cX9_readNumber 55 = .ok (.ldc2_w 59, 3) := by decide +kernel
theorem dX9_readNumber_58 : decode cX9_readNumber 58 = .ok (.lmul, 1) := by decide +kernel
theorem dX9_readNumber_59 : decode cX9_readNumber 59 = .ok (.aload_n 0, 1) := by decide +kernel
theorem dX9_readNumber_60 : decode cX9_readNumber 60 = .ok (.getfield 9, 3) := by decide +kernel
theorem dX9_readNumber_63 : decode cX9_readNumber 63 = .ok (.aload_n 0, 1) := by decide +kernel
theorem dX9_readNumber_64 : decode cX9_readNumber 64 = .ok (.getfield 15, 3) := by decide +kernel
theorem dX9_readNumber_67 : decode cX9_readNumber 67 = .ok (.invokevirtual 31, 3) := by decide +kernel
theorem dX9_readNumber_70 : decode cX9_readNumber 70 = .ok (.bipush 48, 2) := by decide +kernel
theorem dX9_readNumber_72 : decode cX9_readNumber 72 = .ok (.isub, 1) := by decide +kernel
theorem dX9_readNumber_73 : decode cX9_readNumber 73 = .ok (.i2l, 1) := by decide +kernel
theorem dX9_readNumber_74 : decode cX9_readNumber 74 = .ok (.ladd, 1) := by decide +kernel
theorem dX9_readNumber_75 : decode cX9_readNumber 75 = .ok (.putfield 46, 3) := by decide +kernel
theorem dX9_readNumber_78 : decode cX9_readNumber 78 = .ok (.aload_n 0, 1) := by decide +kernel
theorem dX9_readNumber_79 : decode cX9_readNumber 79 = .ok (.dup, 1) := by decide +kernel
theorem dX9_readNumber_80 : decode cX9_readNumber 80 = .ok (.getfield 15, 3) := by decide +kernel
theorem dX9_readNumber_83 : decode cX9_readNumber 83 = .ok (.iconst 1, 1) := by decide +kernel
theorem dX9_readNumber_84 : decode cX9_readNumber 84 = .ok (.iadd, 1) := by decide +kernel
theorem dX9_readNumber_85 : decode cX9_readNumber 85 = .ok (.putfield 15, 3) := by decide +kernel
theorem dX9_readNumber_88 : decode cX9_readNumber 88 = .ok (.goto (-76), 3) := by decide +kernel
theorem dX9_readNumber_91 : decode cX9_readNumber 91 = .ok (.aload_n 0, 1) := by decide +kernel
theorem dX9_readNumber_92 : decode cX9_readNumber 92 = .ok (.bipush 48, 2) := by decide +kernel
theorem dX9_readNumber_94 : decode cX9_readNumber 94 = .ok (.putfield 35, 3) := by decide +kernel
theorem dX9_readNumber_97 : decode cX9_readNumber 97 = .ok (.return_, 1) := by decide +kernel
set_option maxRecDepth 20000 in
set_option maxHeartbeats 4000000 in
theorem tb_X9_readNumber_b12 {p : Program} {l : Launch} {e : Env} {s : State} {m : MethodId} {args : Array Value} {below : List Frame} {meth : Method} {c : Code} {G : GG} {Φ : S9 → Prop} {K12 : S9 → Prop} (hE : Ev 40 G p s m args c cX9_readNumber RX9) (hml : c.maxLocals = 1) (hr : meth.sig.returnType = none) (hlk : meth.locks = false) (hK12 : ∀  (σ : S9) (H : Heap) (locs : List Loc) (ls : Array Slot), K12  σ → Pic cwl 40 G σ s.heap H locs → lv_has ls 1 [(0, .ref (gAd G 5))] → W p l e rm_X9_readNumber s m args below meth c H locs 0 0 (QV cwl 40 G below args s Φ) (F0 m 12 ls []))  {σ : S9} {H : Heap} {locs : List Loc} {ls : Array Slot} (hq : bd_X9_readNumber_b12 K12 Φ  σ) (hw : Pic cwl 40 G σ s.heap H locs) (hl : lv_has ls 1 [(0, .ref (gAd G 5))]) : W p l e rm_X9_readNumber s m args below meth c H locs 0 0 (QV cwl 40 G below args s Φ) (F0 m 12 ls []) := by
  unfold bd_X9_readNumber_b12 at hq
  refine lv_aload_n hE.1 hE.2.1 dX9_readNumber_12 rfl (lv_at hl 0 rfl) ?_
  refine cgf_X9_15 hE hw dX9_readNumber_13 ?_
  refine lv_aload_n hE.1 hE.2.1 dX9_readNumber_16 rfl (lv_at hl 0 rfl) ?_
  refine cgf_X9_9 hE hw dX9_readNumber_17 ?_
  refine cgf_X9_52 hE hw dX9_readNumber_20 ?_
  refine lv_icmp_ge (tgt := 91) hE.1 hE.2.1 dX9_readNumber_23 (by decide) (fun c1 => ?_) (fun c1 => ?_)
  · have hq := hq.1 c1
    refine lv_aload_n hE.1 hE.2.1 dX9_readNumber_91 rfl (lv_at hl 0 rfl) ?_
    refine lv_bipush (v := (48 : Int32)) hE.1 hE.2.1 dX9_readNumber_92 (by decide) ?_
    refine cpf_X9_35 hE hw rfl (by decide) dX9_readNumber_94 (fun σ1 eσ1 H locs hw => ?_)
    have hq := hq σ1 eσ1
    exact rtV hE hr hlk hw hq dX9_readNumber_97
  · have hq := hq.2 c1
    refine lv_aload_n hE.1 hE.2.1 dX9_readNumber_26 rfl (lv_at hl 0 rfl) ?_
    refine cgf_X9_9 hE hw dX9_readNumber_27 ?_
    refine lv_aload_n hE.1 hE.2.1 dX9_readNumber_30 rfl (lv_at hl 0 rfl) ?_
    refine cgf_X9_15 hE hw dX9_readNumber_31 ?_
    refine clVi (rest := []) (As := [.int (σ.1 11)]) hE hml hl.1 hw (c_X8_signAt hE.2.2.2.2.2 l _ _ _ hq) cu145 cu158 cu148 cu149 cu146 rfl (k := 1) (by decide +kernel) (by decide) (ci := 8) rfl (q0 := 1) rfl rfl rfl (Nat.le_of_ble_eq_true rfl) dX9_readNumber_34 (by decide) (fun r2 σ2 hq H locs hw => ?_)
    refine clNi (rest := []) (As := [.int r2]) hE hml hl.1 hw (c_X10_isDigit hE.2.2.2.2.2 l _ _ _ hq) cu160 (List.mem_of_getElem? (i := 46) rfl) cu161 cu47 (k := 1) (by decide +kernel) (by decide) rfl rfl (Nat.le_of_ble_eq_true rfl) dX9_readNumber_37 (by decide) (fun r3 σ3 hq H locs hw => ?_)
    refine lv_if_eq (tgt := 91) hE.1 hE.2.1 dX9_readNumber_40 (by decide) (fun c4 => ?_) (fun c4 => ?_)
    · have hq := hq.1 c4
      refine lv_aload_n hE.1 hE.2.1 dX9_readNumber_91 rfl (lv_at hl 0 rfl) ?_
      refine lv_bipush (v := (48 : Int32)) hE.1 hE.2.1 dX9_readNumber_92 (by decide) ?_
      refine cpf_X9_35 hE hw rfl (by decide) dX9_readNumber_94 (fun σ4 eσ4 H locs hw => ?_)
      have hq := hq σ4 eσ4
      exact rtV hE hr hlk hw hq dX9_readNumber_97
    · have hq := hq.2 c4
      refine lv_aload_n hE.1 hE.2.1 dX9_readNumber_43 rfl (lv_at hl 0 rfl) ?_
      refine clVi (rest := []) (As := []) hE hml hl.1 hw (c_X9_isTooGreat hE.2.2.2.2.2 l _ _ hq) cu164 cu166 cu167 cu168 cu165 rfl (k := 0) (by decide +kernel) (by decide) (ci := 9) rfl (q0 := 5) rfl rfl rfl (Nat.le_of_ble_eq_true rfl) dX9_readNumber_44 (by decide) (fun r5 σ5 hq H locs hw => ?_)
      refine lv_if_ne (tgt := 78) hE.1 hE.2.1 dX9_readNumber_47 (by decide) (fun c6 => ?_) (fun c6 => ?_)
      · have hq := hq.2 c6
        refine lv_aload_n hE.1 hE.2.1 dX9_readNumber_78 rfl (lv_at hl 0 rfl) ?_
        refine lv_dup hE.1 hE.2.1 dX9_readNumber_79 rfl ?_
        refine cgf_X9_15 hE hw dX9_readNumber_80 ?_
        refine lv_iconst (v := (1 : Int32)) hE.1 hE.2.1 dX9_readNumber_83 (by decide) ?_
        refine lv_iadd hE.1 hE.2.1 dX9_readNumber_84 ?_
        refine cpf_X9_15 hE hw dX9_readNumber_85 (fun σ6 eσ6 H locs hw => ?_)
        have hq := hq σ6 eσ6
        refine lv_goto (tgt := 12) hE.1 hE.2.1 dX9_readNumber_88 (by decide) ?_
        exact hK12 _ _ _ _ hq hw (lv_sub hl [0] rfl)
      · have hq := hq.1 c6
        refine lv_aload_n hE.1 hE.2.1 dX9_readNumber_50 rfl (lv_at hl 0 rfl) ?_
        refine lv_aload_n hE.1 hE.2.1 dX9_readNumber_51 rfl (lv_at hl 0 rfl) ?_
        refine cgf_X9_46 hE hw dX9_readNumber_52 ?_
        refine lv_ldc2 (v := 10) hE.1 hE.2.1 hE.2.2.1 (hE.2.2.2.1 _ cu169) dX9_readNumber_55 ?_
        refine lv_lmul hE.1 hE.2.1 dX9_readNumber_58 ?_
        refine lv_aload_n hE.1 hE.2.1 dX9_readNumber_59 rfl (lv_at hl 0 rfl) ?_
        refine cgf_X9_9 hE hw dX9_readNumber_60 ?_
        refine lv_aload_n hE.1 hE.2.1 dX9_readNumber_63 rfl (lv_at hl 0 rfl) ?_
        refine cgf_X9_15 hE hw dX9_readNumber_64 ?_
        refine clVi (rest := [.long ((σ5.2.2) * (10 : Int64)), .ref (gAd G 5)]) (As := [.int (σ5.1 11)]) hE hml hl.1 hw (c_X8_signAt hE.2.2.2.2.2 l _ _ _ hq) cu145 cu158 cu148 cu149 cu146 rfl (k := 1) (by decide +kernel) (by decide) (ci := 8) rfl (q0 := 1) rfl rfl rfl (Nat.le_of_ble_eq_true rfl) dX9_readNumber_67 (by decide) (fun r7 σ7 hq H locs hw => ?_)
        refine lv_bipush (v := (48 : Int32)) hE.1 hE.2.1 dX9_readNumber_70 (by decide) ?_
        refine lv_isub hE.1 hE.2.1 dX9_readNumber_72 ?_
        refine lv_i2l (v := ((r7 - (48 : Int32))).toInt64) hE.1 hE.2.1 dX9_readNumber_73 rfl ?_
        refine lv_ladd hE.1 hE.2.1 dX9_readNumber_74 ?_
        refine cpf_X9_46 hE hw dX9_readNumber_75 (fun σ8 eσ8 H locs hw => ?_)
        have hq := hq σ8 eσ8
        refine lv_aload_n hE.1 hE.2.1 dX9_readNumber_78 rfl (lv_at hl 0 rfl) ?_
        refine lv_dup hE.1 hE.2.1 dX9_readNumber_79 rfl ?_
        refine cgf_X9_15 hE hw dX9_readNumber_80 ?_
        refine lv_iconst (v := (1 : Int32)) hE.1 hE.2.1 dX9_readNumber_83 (by decide) ?_
        refine lv_iadd hE.1 hE.2.1 dX9_readNumber_84 ?_
        refine cpf_X9_15 hE hw dX9_readNumber_85 (fun σ9 eσ9 H locs hw => ?_)
        have hq := hq σ9 eσ9
        refine lv_goto (tgt := 12) hE.1 hE.2.1 dX9_readNumber_88 (by decide) ?_
        exact hK12 _ _ _ _ hq hw (lv_sub hl [0] rfl)
theorem tl_X9_readNumber_b12 {p : Program} {l : Launch} {e : Env} {s : State} {m : MethodId} {args : Array Value} {below : List Frame} {meth : Method} {c : Code} {G : GG} {Φ : S9 → Prop}  (hE : Ev 40 G p s m args c cX9_readNumber RX9) (hml : c.maxLocals = 1) (hr : meth.sig.returnType = none) (hlk : meth.locks = false)  : ∀ (n : Nat)  (σ : S9) (H : Heap) (locs : List Loc) (ls : Array Slot), lp_X9_readNumber_b12  Φ n  σ → Pic cwl 40 G σ s.heap H locs → lv_has ls 1 [(0, .ref (gAd G 5))] → W p l e rm_X9_readNumber s m args below meth c H locs 0 0 (QV cwl 40 G below args s Φ) (F0 m 12 ls []) := by
  intro n
  induction n with
  | zero => intro _ _ _ _ hq; exact hq.elim
  | succ n ih => intro _ _ _ _ hq hw hl; exact tb_X9_readNumber_b12 hE hml hr hlk  ih hq hw hl
set_option maxRecDepth 20000 in
set_option maxHeartbeats 4000000 in
theorem c_X9_readNumber {G : GG} (hJ : gJ 40 G) (l : Launch)  (σ : S9) (Φ : S9 → Prop) (hq : wp_X9_readNumber  σ Φ) : CV cwl 40 G l yX9_readNumber cX9_readNumber 1 rm_X9_readNumber [.ref (gAd G 5)] σ Φ := by
  refine CV.intro (by decide) (Nat.le_of_ble_eq_true rfl) hJ ?_
  intro p e s m args below meth c ls hE hml hr hlk hw hl
  have hl : lv_has ls 1 [(0, .ref (gAd G 5))] := hl
  unfold wp_X9_readNumber at hq
  refine lv_aload_n hE.1 hE.2.1 dX9_readNumber_0 rfl (lv_at hl 0 rfl) ?_
  refine lv_aload_n hE.1 hE.2.1 dX9_readNumber_1 rfl (lv_at hl 0 rfl) ?_
  refine cgf_X9_35 hE hw dX9_readNumber_2 ?_
  refine lv_bipush (v := (48 : Int32)) hE.1 hE.2.1 dX9_readNumber_5 (by decide) ?_
  refine lv_isub hE.1 hE.2.1 dX9_readNumber_7 ?_
  refine lv_i2l (v := (((σ.1 12) - (48 : Int32))).toInt64) hE.1 hE.2.1 dX9_readNumber_8 rfl ?_
  refine cpf_X9_46 hE hw dX9_readNumber_9 (fun σ1 eσ1 H locs hw => ?_)
  have hq := hq σ1 eσ1
  obtain ⟨nn, hq⟩ := hq
  exact tl_X9_readNumber_b12 hE hml hr hlk  nn  _ _ _ _ hq hw (lv_sub hl [0] rfl)
/-! QueueBench$Words.toNext()V -/
abbrev rm_X9_toNext : Room := { frames := 2, cells := 0, slots := 0, locals := 43 }
def wp_X9_toNext  (σ : S9) (Φ : S9 → Prop) : Prop := wp_X8_wordFrom (σ.1 11) σ (fun r1 σ1 => ∀ σ2 : S9, σ2 = sF σ1 10 r1 → wp_X8_signAt (σ2.1 10) σ2 (fun r2 σ3 => (narrow .char (.int r2) = .int r2 ∧ fits .char (.int r2) = true) ∧ ∀ σ4 : S9, σ4 = sF σ3 12 r2 → ∀ σ5 : S9, σ5 = sF σ4 11 ((σ4.1 10) + (1 : Int32)) → wp_X10_isDigit (σ5.1 12) σ5 (fun r4 σ6 => (r4 = 0 → Φ σ6) ∧ (¬ r4 = 0 → wp_X9_readNumber σ6 (fun σ7 => Φ σ7)))))
theorem dX9_toNext_0 : decode cX9_toNext 0 = .ok (.aload_n 0, 1) := by decide +kernel
theorem dX9_toNext_1 : decode cX9_toNext 1 = .ok (.aload_n 0, 1) := by decide +kernel
theorem dX9_toNext_2 : decode cX9_toNext 2 = .ok (.getfield 9, 3) := by decide +kernel
theorem dX9_toNext_5 : decode cX9_toNext 5 = .ok (.aload_n 0, 1) := by decide +kernel
theorem dX9_toNext_6 : decode cX9_toNext 6 = .ok (.getfield 15, 3) := by decide +kernel
theorem dX9_toNext_9 : decode cX9_toNext 9 = .ok (.invokevirtual 22, 3) := by decide +kernel
theorem dX9_toNext_12 : decode cX9_toNext 12 = .ok (.putfield 28, 3) := by decide +kernel
theorem dX9_toNext_15 : decode cX9_toNext 15 = .ok (.aload_n 0, 1) := by decide +kernel
theorem dX9_toNext_16 : decode cX9_toNext 16 = .ok (.aload_n 0, 1) := by decide +kernel
theorem dX9_toNext_17 : decode cX9_toNext 17 = .ok (.getfield 9, 3) := by decide +kernel
theorem dX9_toNext_20 : decode cX9_toNext 20 = .ok (.aload_n 0, 1) := by decide +kernel
theorem dX9_toNext_21 : decode cX9_toNext 21 = .ok (.getfield 28, 3) := by decide +kernel
theorem dX9_toNext_24 : decode cX9_toNext 24 = .ok (.invokevirtual 31, 3) := by decide +kernel
theorem dX9_toNext_27 : decode cX9_toNext 27 = .ok (.putfield 35, 3) := by decide +kernel
theorem dX9_toNext_30 : decode cX9_toNext 30 = .ok (.aload_n 0, 1) := by decide +kernel
theorem dX9_toNext_31 : decode cX9_toNext 31 = .ok (.aload_n 0, 1) := by decide +kernel
theorem dX9_toNext_32 : decode cX9_toNext 32 = .ok (.getfield 28, 3) := by decide +kernel
theorem dX9_toNext_35 : decode cX9_toNext 35 = .ok (.iconst 1, 1) := by decide +kernel
theorem dX9_toNext_36 : decode cX9_toNext 36 = .ok (.iadd, 1) := by decide +kernel
theorem dX9_toNext_37 : decode cX9_toNext 37 = .ok (.putfield 15, 3) := by decide +kernel
theorem dX9_toNext_40 : decode cX9_toNext 40 = .ok (.aload_n 0, 1) := by decide +kernel
theorem dX9_toNext_41 : decode cX9_toNext 41 = .ok (.getfield 35, 3) := by decide +kernel
theorem dX9_toNext_44 : decode cX9_toNext 44 = .ok (.invokestatic 39, 3) := by decide +kernel
theorem dX9_toNext_47 : decode cX9_toNext 47 = .ok (.ifCond .eq 7, 3) := by decide +kernel
theorem dX9_toNext_50 : decode cX9_toNext 50 = .ok (.aload_n 0, 1) := by decide +kernel
theorem dX9_toNext_51 : decode cX9_toNext 51 = .ok (.invokevirtual 43, 3) := by decide +kernel
theorem dX9_toNext_54 : decode cX9_toNext 54 = .ok (.return_, 1) := by decide +kernel
set_option maxRecDepth 20000 in
set_option maxHeartbeats 4000000 in
theorem c_X9_toNext {G : GG} (hJ : gJ 40 G) (l : Launch)  (σ : S9) (Φ : S9 → Prop) (hq : wp_X9_toNext  σ Φ) : CV cwl 40 G l yX9_toNext cX9_toNext 1 rm_X9_toNext [.ref (gAd G 5)] σ Φ := by
  refine CV.intro (by decide) (Nat.le_of_ble_eq_true rfl) hJ ?_
  intro p e s m args below meth c ls hE hml hr hlk hw hl
  have hl : lv_has ls 1 [(0, .ref (gAd G 5))] := hl
  unfold wp_X9_toNext at hq
  refine lv_aload_n hE.1 hE.2.1 dX9_toNext_0 rfl (lv_at hl 0 rfl) ?_
  refine lv_aload_n hE.1 hE.2.1 dX9_toNext_1 rfl (lv_at hl 0 rfl) ?_
  refine cgf_X9_9 hE hw dX9_toNext_2 ?_
  refine lv_aload_n hE.1 hE.2.1 dX9_toNext_5 rfl (lv_at hl 0 rfl) ?_
  refine cgf_X9_15 hE hw dX9_toNext_6 ?_
  refine clVi (rest := [.ref (gAd G 5)]) (As := [.int (σ.1 11)]) hE hml hl.1 hw (c_X8_wordFrom hE.2.2.2.2.2 l _ _ _ hq) cu153 cu154 cu155 cu156 cu146 rfl (k := 1) (by decide +kernel) (by decide) (ci := 8) rfl (q0 := 1) rfl rfl rfl (Nat.le_of_ble_eq_true rfl) dX9_toNext_9 (by decide) (fun r1 σ1 hq H locs hw => ?_)
  refine cpf_X9_28 hE hw dX9_toNext_12 (fun σ2 eσ2 H locs hw => ?_)
  have hq := hq σ2 eσ2
  refine lv_aload_n hE.1 hE.2.1 dX9_toNext_15 rfl (lv_at hl 0 rfl) ?_
  refine lv_aload_n hE.1 hE.2.1 dX9_toNext_16 rfl (lv_at hl 0 rfl) ?_
  refine cgf_X9_9 hE hw dX9_toNext_17 ?_
  refine lv_aload_n hE.1 hE.2.1 dX9_toNext_20 rfl (lv_at hl 0 rfl) ?_
  refine cgf_X9_28 hE hw dX9_toNext_21 ?_
  refine clVi (rest := [.ref (gAd G 5)]) (As := [.int (σ2.1 10)]) hE hml hl.1 hw (c_X8_signAt hE.2.2.2.2.2 l _ _ _ hq) cu145 cu158 cu148 cu149 cu146 rfl (k := 1) (by decide +kernel) (by decide) (ci := 8) rfl (q0 := 1) rfl rfl rfl (Nat.le_of_ble_eq_true rfl) dX9_toNext_24 (by decide) (fun r2 σ3 hq H locs hw => ?_)
  obtain ⟨hf3, hq⟩ := hq
  refine cpf_X9_35 hE hw hf3.1 hf3.2 dX9_toNext_27 (fun σ4 eσ4 H locs hw => ?_)
  have hq := hq σ4 eσ4
  refine lv_aload_n hE.1 hE.2.1 dX9_toNext_30 rfl (lv_at hl 0 rfl) ?_
  refine lv_aload_n hE.1 hE.2.1 dX9_toNext_31 rfl (lv_at hl 0 rfl) ?_
  refine cgf_X9_28 hE hw dX9_toNext_32 ?_
  refine lv_iconst (v := (1 : Int32)) hE.1 hE.2.1 dX9_toNext_35 (by decide) ?_
  refine lv_iadd hE.1 hE.2.1 dX9_toNext_36 ?_
  refine cpf_X9_15 hE hw dX9_toNext_37 (fun σ5 eσ5 H locs hw => ?_)
  have hq := hq σ5 eσ5
  refine lv_aload_n hE.1 hE.2.1 dX9_toNext_40 rfl (lv_at hl 0 rfl) ?_
  refine cgf_X9_35 hE hw dX9_toNext_41 ?_
  refine clNi (rest := []) (As := [.int (σ5.1 12)]) hE hml hl.1 hw (c_X10_isDigit hE.2.2.2.2.2 l _ _ _ hq) cu160 (List.mem_of_getElem? (i := 46) rfl) cu161 cu47 (k := 1) (by decide +kernel) (by decide) rfl rfl (Nat.le_of_ble_eq_true rfl) dX9_toNext_44 (by decide) (fun r4 σ6 hq H locs hw => ?_)
  refine lv_if_eq (tgt := 54) hE.1 hE.2.1 dX9_toNext_47 (by decide) (fun c5 => ?_) (fun c5 => ?_)
  · have hq := hq.1 c5
    exact rtV hE hr hlk hw hq dX9_toNext_54
  · have hq := hq.2 c5
    refine lv_aload_n hE.1 hE.2.1 dX9_toNext_50 rfl (lv_at hl 0 rfl) ?_
    refine clVv (rest := []) (As := []) hE hml hl.1 hw (c_X9_readNumber hE.2.2.2.2.2 l _ _ hq) cu170 cu171 cu172 cu173 cu165 rfl (k := 0) (by decide +kernel) (by decide) (ci := 9) rfl (q0 := 5) rfl rfl rfl (Nat.le_of_ble_eq_true rfl) dX9_toNext_51 (by decide) (fun σ7 hq H locs hw => ?_)
    exact rtV hE hr hlk hw hq dX9_toNext_54
/-! QueueBench$Words.toFirst()V -/
abbrev rm_X9_toFirst : Room := { frames := 3, cells := 0, slots := 0, locals := 63 }
def wp_X9_toFirst  (σ : S9) (Φ : S9 → Prop) : Prop := ∀ σ1 : S9, σ1 = sF σ 11 (0 : Int32) → wp_X9_toNext σ1 (fun σ2 => Φ σ2)
theorem dX9_toFirst_0 : decode cX9_toFirst 0 = .ok (.aload_n 0, 1) := by decide +kernel
theorem dX9_toFirst_1 : decode cX9_toFirst 1 = .ok (.iconst 0, 1) := by decide +kernel
theorem dX9_toFirst_2 : decode cX9_toFirst 2 = .ok (.putfield 15, 3) := by decide +kernel
theorem dX9_toFirst_5 : decode cX9_toFirst 5 = .ok (.aload_n 0, 1) := by decide +kernel
theorem dX9_toFirst_6 : decode cX9_toFirst 6 = .ok (.invokevirtual 19, 3) := by decide +kernel
theorem dX9_toFirst_9 : decode cX9_toFirst 9 = .ok (.return_, 1) := by decide +kernel
set_option maxRecDepth 20000 in
set_option maxHeartbeats 4000000 in
theorem c_X9_toFirst {G : GG} (hJ : gJ 40 G) (l : Launch)  (σ : S9) (Φ : S9 → Prop) (hq : wp_X9_toFirst  σ Φ) : CV cwl 40 G l yX9_toFirst cX9_toFirst 1 rm_X9_toFirst [.ref (gAd G 5)] σ Φ := by
  refine CV.intro (by decide) (Nat.le_of_ble_eq_true rfl) hJ ?_
  intro p e s m args below meth c ls hE hml hr hlk hw hl
  have hl : lv_has ls 1 [(0, .ref (gAd G 5))] := hl
  unfold wp_X9_toFirst at hq
  refine lv_aload_n hE.1 hE.2.1 dX9_toFirst_0 rfl (lv_at hl 0 rfl) ?_
  refine lv_iconst (v := (0 : Int32)) hE.1 hE.2.1 dX9_toFirst_1 (by decide) ?_
  refine cpf_X9_15 hE hw dX9_toFirst_2 (fun σ1 eσ1 H locs hw => ?_)
  have hq := hq σ1 eσ1
  refine lv_aload_n hE.1 hE.2.1 dX9_toFirst_5 rfl (lv_at hl 0 rfl) ?_
  refine clVv (rest := []) (As := []) hE hml hl.1 hw (c_X9_toNext hE.2.2.2.2.2 l _ _ hq) cu174 cu175 cu176 cu177 cu165 rfl (k := 0) (by decide +kernel) (by decide) (ci := 9) rfl (q0 := 5) rfl rfl rfl (Nat.le_of_ble_eq_true rfl) dX9_toFirst_6 (by decide) (fun σ2 hq H locs hw => ?_)
  exact rtV hE hr hlk hw hq dX9_toFirst_9
/-! QueueBench$Words.atEnd()Z -/
abbrev rm_X9_atEnd : Room := { frames := 0, cells := 0, slots := 0, locals := 0 }
def wp_X9_atEnd  (σ : S9) (Φ : Int32 → S9 → Prop) : Prop := ((σ.1 12) = 0 → Φ (1 : Int32) σ) ∧ (¬ (σ.1 12) = 0 → Φ (0 : Int32) σ)
theorem dX9_atEnd_0 : decode cX9_atEnd 0 = .ok (.aload_n 0, 1) := by decide +kernel
theorem dX9_atEnd_1 : decode cX9_atEnd 1 = .ok (.getfield 35, 3) := by decide +kernel
theorem dX9_atEnd_4 : decode cX9_atEnd 4 = .ok (.ifCond .ne 7, 3) := by decide +kernel
theorem dX9_atEnd_7 : decode cX9_atEnd 7 = .ok (.iconst 1, 1) := by decide +kernel
theorem dX9_atEnd_8 : decode cX9_atEnd 8 = .ok (.goto 4, 3) := by decide +kernel
theorem dX9_atEnd_11 : decode cX9_atEnd 11 = .ok (.iconst 0, 1) := by decide +kernel
theorem dX9_atEnd_12 : decode cX9_atEnd 12 = .ok (.ireturn, 1) := by decide +kernel
set_option maxRecDepth 20000 in
set_option maxHeartbeats 4000000 in
theorem c_X9_atEnd {G : GG} (hJ : gJ 40 G) (l : Launch)  (σ : S9) (Φ : Int32 → S9 → Prop) (hq : wp_X9_atEnd  σ Φ) : CI cwl 40 G l yX9_atEnd cX9_atEnd 1 (some .boolean) rm_X9_atEnd [.ref (gAd G 5)] σ Φ := by
  refine CI.intro (by decide) (Nat.le_of_ble_eq_true rfl) hJ ?_
  intro p e s m args below meth c ls hE hml hr hlk hw hl
  have hl : lv_has ls 1 [(0, .ref (gAd G 5))] := hl
  unfold wp_X9_atEnd at hq
  refine lv_aload_n hE.1 hE.2.1 dX9_atEnd_0 rfl (lv_at hl 0 rfl) ?_
  refine cgf_X9_35 hE hw dX9_atEnd_1 ?_
  refine lv_if_ne (tgt := 11) hE.1 hE.2.1 dX9_atEnd_4 (by decide) (fun c1 => ?_) (fun c1 => ?_)
  · have hq := hq.2 c1
    refine lv_iconst (v := (0 : Int32)) hE.1 hE.2.1 dX9_atEnd_11 (by decide) ?_
    exact rtZ hE hr hlk rfl hw hq dX9_atEnd_12
  · have hq := hq.1 c1
    refine lv_iconst (v := (1 : Int32)) hE.1 hE.2.1 dX9_atEnd_7 (by decide) ?_
    refine lv_goto (tgt := 12) hE.1 hE.2.1 dX9_atEnd_8 (by decide) ?_
    exact rtZ hE hr hlk rfl hw hq dX9_atEnd_12
/-! QueueBench.isProcedure(C)Z -/
abbrev rm_X10_isProcedure : Room := { frames := 0, cells := 0, slots := 0, locals := 0 }
def wp_X10_isProcedure (a0 : Int32) (σ : S9) (Φ : Int32 → S9 → Prop) : Prop := (a0 < (65 : Int32) → Φ (0 : Int32) σ) ∧ (¬ a0 < (65 : Int32) → ((90 : Int32) < a0 → Φ (0 : Int32) σ) ∧ (¬ (90 : Int32) < a0 → Φ (1 : Int32) σ))
theorem dX10_isProcedure_0 : decode cX10_isProcedure 0 = .ok (.iload_n 0, 1) := by decide +kernel
theorem dX10_isProcedure_1 : decode cX10_isProcedure 1 = .ok (.bipush 65, 2) := by decide +kernel
theorem dX10_isProcedure_3 : decode cX10_isProcedure 3 = .ok (.if_icmp .lt 13, 3) := by decide +kernel
theorem dX10_isProcedure_6 : decode cX10_isProcedure 6 = .ok (.iload_n 0, 1) := by decide +kernel
theorem dX10_isProcedure_7 : decode cX10_isProcedure 7 = .ok (.bipush 90, 2) := by decide +kernel
theorem dX10_isProcedure_9 : decode cX10_isProcedure 9 = .ok (.if_icmp .gt 7, 3) := by decide +kernel
theorem dX10_isProcedure_12 : decode cX10_isProcedure 12 = .ok (.iconst 1, 1) := by decide +kernel
theorem dX10_isProcedure_13 : decode cX10_isProcedure 13 = .ok (.goto 4, 3) := by decide +kernel
theorem dX10_isProcedure_16 : decode cX10_isProcedure 16 = .ok (.iconst 0, 1) := by decide +kernel
theorem dX10_isProcedure_17 : decode cX10_isProcedure 17 = .ok (.ireturn, 1) := by decide +kernel
set_option maxRecDepth 20000 in
set_option maxHeartbeats 4000000 in
theorem c_X10_isProcedure {G : GG} (hJ : gJ 40 G) (l : Launch) (a0 : Int32) (σ : S9) (Φ : Int32 → S9 → Prop) (hq : wp_X10_isProcedure a0 σ Φ) : CI cwl 40 G l yX10_isProcedure cX10_isProcedure 1 (some .boolean) rm_X10_isProcedure [.int a0] σ Φ := by
  refine CI.intro (by decide) (Nat.le_of_ble_eq_true rfl) hJ ?_
  intro p e s m args below meth c ls hE hml hr hlk hw hl
  have hl : lv_has ls 1 [(0, .int a0)] := hl
  unfold wp_X10_isProcedure at hq
  refine lv_iload_n hE.1 hE.2.1 dX10_isProcedure_0 rfl (lv_at hl 0 rfl) ?_
  refine lv_bipush (v := (65 : Int32)) hE.1 hE.2.1 dX10_isProcedure_1 (by decide) ?_
  refine lv_icmp_lt (tgt := 16) hE.1 hE.2.1 dX10_isProcedure_3 (by decide) (fun c1 => ?_) (fun c1 => ?_)
  · have hq := hq.1 c1
    refine lv_iconst (v := (0 : Int32)) hE.1 hE.2.1 dX10_isProcedure_16 (by decide) ?_
    exact rtZ hE hr hlk rfl hw hq dX10_isProcedure_17
  · have hq := hq.2 c1
    refine lv_iload_n hE.1 hE.2.1 dX10_isProcedure_6 rfl (lv_at hl 0 rfl) ?_
    refine lv_bipush (v := (90 : Int32)) hE.1 hE.2.1 dX10_isProcedure_7 (by decide) ?_
    refine lv_icmp_gt (tgt := 16) hE.1 hE.2.1 dX10_isProcedure_9 (by decide) (fun c2 => ?_) (fun c2 => ?_)
    · have hq := hq.1 c2
      refine lv_iconst (v := (0 : Int32)) hE.1 hE.2.1 dX10_isProcedure_16 (by decide) ?_
      exact rtZ hE hr hlk rfl hw hq dX10_isProcedure_17
    · have hq := hq.2 c2
      refine lv_iconst (v := (1 : Int32)) hE.1 hE.2.1 dX10_isProcedure_12 (by decide) ?_
      refine lv_goto (tgt := 17) hE.1 hE.2.1 dX10_isProcedure_13 (by decide) ?_
      exact rtZ hE hr hlk rfl hw hq dX10_isProcedure_17
/-! QueueBench.isName(C)Z -/
abbrev rm_X10_isName : Room := { frames := 0, cells := 0, slots := 0, locals := 0 }
def wp_X10_isName (a0 : Int32) (σ : S9) (Φ : Int32 → S9 → Prop) : Prop := (a0 < (97 : Int32) → Φ (0 : Int32) σ) ∧ (¬ a0 < (97 : Int32) → ((122 : Int32) < a0 → Φ (0 : Int32) σ) ∧ (¬ (122 : Int32) < a0 → Φ (1 : Int32) σ))
theorem dX10_isName_0 : decode cX10_isName 0 = .ok (.iload_n 0, 1) := by decide +kernel
theorem dX10_isName_1 : decode cX10_isName 1 = .ok (.bipush 97, 2) := by decide +kernel
theorem dX10_isName_3 : decode cX10_isName 3 = .ok (.if_icmp .lt 13, 3) := by decide +kernel
theorem dX10_isName_6 : decode cX10_isName 6 = .ok (.iload_n 0, 1) := by decide +kernel
theorem dX10_isName_7 : decode cX10_isName 7 = .ok (.bipush 122, 2) := by decide +kernel
theorem dX10_isName_9 : decode cX10_isName 9 = .ok (.if_icmp .gt 7, 3) := by decide +kernel
theorem dX10_isName_12 : decode cX10_isName 12 = .ok (.iconst 1, 1) := by decide +kernel
theorem dX10_isName_13 : decode cX10_isName 13 = .ok (.goto 4, 3) := by decide +kernel
theorem dX10_isName_16 : decode cX10_isName 16 = .ok (.iconst 0, 1) := by decide +kernel
theorem dX10_isName_17 : decode cX10_isName 17 = .ok (.ireturn, 1) := by decide +kernel
set_option maxRecDepth 20000 in
set_option maxHeartbeats 4000000 in
theorem c_X10_isName {G : GG} (hJ : gJ 40 G) (l : Launch) (a0 : Int32) (σ : S9) (Φ : Int32 → S9 → Prop) (hq : wp_X10_isName a0 σ Φ) : CI cwl 40 G l yX10_isName cX10_isName 1 (some .boolean) rm_X10_isName [.int a0] σ Φ := by
  refine CI.intro (by decide) (Nat.le_of_ble_eq_true rfl) hJ ?_
  intro p e s m args below meth c ls hE hml hr hlk hw hl
  have hl : lv_has ls 1 [(0, .int a0)] := hl
  unfold wp_X10_isName at hq
  refine lv_iload_n hE.1 hE.2.1 dX10_isName_0 rfl (lv_at hl 0 rfl) ?_
  refine lv_bipush (v := (97 : Int32)) hE.1 hE.2.1 dX10_isName_1 (by decide) ?_
  refine lv_icmp_lt (tgt := 16) hE.1 hE.2.1 dX10_isName_3 (by decide) (fun c1 => ?_) (fun c1 => ?_)
  · have hq := hq.1 c1
    refine lv_iconst (v := (0 : Int32)) hE.1 hE.2.1 dX10_isName_16 (by decide) ?_
    exact rtZ hE hr hlk rfl hw hq dX10_isName_17
  · have hq := hq.2 c1
    refine lv_iload_n hE.1 hE.2.1 dX10_isName_6 rfl (lv_at hl 0 rfl) ?_
    refine lv_bipush (v := (122 : Int32)) hE.1 hE.2.1 dX10_isName_7 (by decide) ?_
    refine lv_icmp_gt (tgt := 16) hE.1 hE.2.1 dX10_isName_9 (by decide) (fun c2 => ?_) (fun c2 => ?_)
    · have hq := hq.1 c2
      refine lv_iconst (v := (0 : Int32)) hE.1 hE.2.1 dX10_isName_16 (by decide) ?_
      exact rtZ hE hr hlk rfl hw hq dX10_isName_17
    · have hq := hq.2 c2
      refine lv_iconst (v := (1 : Int32)) hE.1 hE.2.1 dX10_isName_12 (by decide) ?_
      refine lv_goto (tgt := 17) hE.1 hE.2.1 dX10_isName_13 (by decide) ?_
      exact rtZ hE hr hlk rfl hw hq dX10_isName_17
/-! QueueBench$Program.addStep(CIII)I -/
abbrev rm_X6_addStep : Room := { frames := 1, cells := 0, slots := 0, locals := 21 }
def wp_X6_addStep (a1 : Int32) (a2 : Int32) (a3 : Int32) (a4 : Int32) (σ : S9) (Φ : Int32 → S9 → Prop) : Prop := ∀ x1 : Int32, x1 = (σ.1 4) → vp_in x1 300 ∧ ∀ σ1 : S9, σ1 = sA σ 2 (upd (σ.2.1 2) (x1).toNatClampNeg (vp_nar .char a1)) → vp_in x1 300 ∧ ∀ σ2 : S9, σ2 = sA σ1 3 (upd (σ1.2.1 3) (x1).toNatClampNeg a2) → vp_in x1 300 ∧ ∀ σ3 : S9, σ3 = sA σ2 4 (upd (σ2.2.1 4) (x1).toNatClampNeg a3) → vp_in x1 300 ∧ ∀ σ4 : S9, σ4 = sA σ3 5 (upd (σ3.2.1 5) (x1).toNatClampNeg a4) → vp_in x1 300 ∧ ∀ σ5 : S9, σ5 = sA σ4 6 (upd (σ4.2.1 6) (x1).toNatClampNeg (-1 : Int32)) → vp_in x1 300 ∧ ∀ σ6 : S9, σ6 = sA σ5 7 (upd (σ5.2.1 7) (x1).toNatClampNeg (-1 : Int32)) → vp_in x1 300 ∧ ∀ σ7 : S9, σ7 = sA σ6 8 (upd (σ6.2.1 8) (x1).toNatClampNeg (-1 : Int32)) → wp_X6_codeStart x1 σ7 (fun r9 σ8 => vp_in x1 300 ∧ ∀ σ9 : S9, σ9 = sA σ8 9 (upd (σ8.2.1 9) (x1).toNatClampNeg r9) → ∀ σ10 : S9, σ10 = sF σ9 4 ((σ9.1 4) + (1 : Int32)) → Φ x1 σ10)
theorem dX6_addStep_0 : decode cX6_addStep 0 = .ok (.aload_n 0, 1) := by decide +kernel
theorem dX6_addStep_1 : decode cX6_addStep 1 = .ok (.getfield 46, 3) := by decide +kernel
theorem dX6_addStep_4 : decode cX6_addStep 4 = .ok (.istore 5, 2) := by decide +kernel
theorem dX6_addStep_6 : decode cX6_addStep 6 = .ok (.aload_n 0, 1) := by decide +kernel
theorem dX6_addStep_7 : decode cX6_addStep 7 = .ok (.getfield 9, 3) := by decide +kernel
theorem dX6_addStep_10 : decode cX6_addStep 10 = .ok (.iload 5, 2) := by decide +kernel
theorem dX6_addStep_12 : decode cX6_addStep 12 = .ok (.iload_n 1, 1) := by decide +kernel
theorem dX6_addStep_13 : decode cX6_addStep 13 = .ok (.castore, 1) := by decide +kernel
theorem dX6_addStep_14 : decode cX6_addStep 14 = .ok (.aload_n 0, 1) := by decide +kernel
theorem dX6_addStep_15 : decode cX6_addStep 15 = .ok (.getfield 15, 3) := by decide +kernel
theorem dX6_addStep_18 : decode cX6_addStep 18 = .ok (.iload 5, 2) := by decide +kernel
theorem dX6_addStep_20 : decode cX6_addStep 20 = .ok (.iload_n 2, 1) := by decide +kernel
theorem dX6_addStep_21 : decode cX6_addStep 21 = .ok (.iastore, 1) := by decide +kernel
theorem dX6_addStep_22 : decode cX6_addStep 22 = .ok (.aload_n 0, 1) := by decide +kernel
theorem dX6_addStep_23 : decode cX6_addStep 23 = .ok (.getfield 19, 3) := by decide +kernel
theorem dX6_addStep_26 : decode cX6_addStep 26 = .ok (.iload 5, 2) := by decide +kernel
theorem dX6_addStep_28 : decode cX6_addStep 28 = .ok (.iload_n 3, 1) := by decide +kernel
theorem dX6_addStep_29 : decode cX6_addStep 29 = .ok (.iastore, 1) := by decide +kernel
theorem dX6_addStep_30 : decode cX6_addStep 30 = .ok (.aload_n 0, 1) := by decide +kernel
theorem dX6_addStep_31 : decode cX6_addStep 31 = .ok (.getfield 22, 3) := by decide +kernel
theorem dX6_addStep_34 : decode cX6_addStep 34 = .ok (.iload 5, 2) := by decide +kernel
theorem dX6_addStep_36 : decode cX6_addStep 36 = .ok (.iload 4, 2) := by decide +kernel
theorem dX6_addStep_38 : decode cX6_addStep 38 = .ok (.iastore, 1) := by decide +kernel
theorem dX6_addStep_39 : decode cX6_addStep 39 = .ok (.aload_n 0, 1) := by decide +kernel
theorem dX6_addStep_40 : decode cX6_addStep 40 = .ok (.getfield 25, 3) := by decide +kernel
theorem dX6_addStep_43 : decode cX6_addStep 43 = .ok (.iload 5, 2) := by decide +kernel
theorem dX6_addStep_45 : decode cX6_addStep 45 = .ok (.iconst (-1), 1) := by decide +kernel
theorem dX6_addStep_46 : decode cX6_addStep 46 = .ok (.iastore, 1) := by decide +kernel
theorem dX6_addStep_47 : decode cX6_addStep 47 = .ok (.aload_n 0, 1) := by decide +kernel
theorem dX6_addStep_48 : decode cX6_addStep 48 = .ok (.getfield 28, 3) := by decide +kernel
theorem dX6_addStep_51 : decode cX6_addStep 51 = .ok (.iload 5, 2) := by decide +kernel
theorem dX6_addStep_53 : decode cX6_addStep 53 = .ok (.iconst (-1), 1) := by decide +kernel
theorem dX6_addStep_54 : decode cX6_addStep 54 = .ok (.iastore, 1) := by decide +kernel
theorem dX6_addStep_55 : decode cX6_addStep 55 = .ok (.aload_n 0, 1) := by decide +kernel
theorem dX6_addStep_56 : decode cX6_addStep 56 = .ok (.getfield 31, 3) := by decide +kernel
theorem dX6_addStep_59 : decode cX6_addStep 59 = .ok (.iload 5, 2) := by decide +kernel
theorem dX6_addStep_61 : decode cX6_addStep 61 = .ok (.iconst (-1), 1) := by decide +kernel
theorem dX6_addStep_62 : decode cX6_addStep 62 = .ok (.iastore, 1) := by decide +kernel
theorem dX6_addStep_63 : decode cX6_addStep 63 = .ok (.aload_n 0, 1) := by decide +kernel
theorem dX6_addStep_64 : decode cX6_addStep 64 = .ok (.getfield 34, 3) := by decide +kernel
theorem dX6_addStep_67 : decode cX6_addStep 67 = .ok (.iload 5, 2) := by decide +kernel
theorem dX6_addStep_69 : decode cX6_addStep 69 = .ok (.aload_n 0, 1) := by decide +kernel
theorem dX6_addStep_70 : decode cX6_addStep 70 = .ok (.iload 5, 2) := by decide +kernel
theorem dX6_addStep_72 : decode cX6_addStep 72 = .ok (.invokevirtual 59, 3) := by decide +kernel
theorem dX6_addStep_75 : decode cX6_addStep 75 = .ok (.iastore, 1) := by decide +kernel
theorem dX6_addStep_76 : decode cX6_addStep 76 = .ok (.aload_n 0, 1) := by decide +kernel
theorem dX6_addStep_77 : decode cX6_addStep 77 = .ok (.dup, 1) := by decide +kernel
theorem dX6_addStep_78 : decode cX6_addStep 78 = .ok (.getfield 46, 3) := by decide +kernel
theorem dX6_addStep_81 : decode cX6_addStep 81 = .ok (.iconst 1, 1) := by decide +kernel
theorem dX6_addStep_82 : decode cX6_addStep 82 = .ok (.iadd, 1) := by decide +kernel
theorem dX6_addStep_83 : decode cX6_addStep 83 = .ok (.putfield 46, 3) := by decide +kernel
theorem dX6_addStep_86 : decode cX6_addStep 86 = .ok (.iload 5, 2) := by decide +kernel
theorem dX6_addStep_88 : decode cX6_addStep 88 = .ok (.ireturn, 1) := by decide +kernel
set_option maxRecDepth 20000 in
set_option maxHeartbeats 4000000 in
theorem c_X6_addStep {G : GG} (hJ : gJ 40 G) (l : Launch) (a1 : Int32) (a2 : Int32) (a3 : Int32) (a4 : Int32) (σ : S9) (Φ : Int32 → S9 → Prop) (hq : wp_X6_addStep a1 a2 a3 a4 σ Φ) : CI cwl 40 G l yX6_addStep cX6_addStep 6 (some .int) rm_X6_addStep [.ref (gAd G 3), .int a1, .int a2, .int a3, .int a4] σ Φ := by
  refine CI.intro (by decide) (Nat.le_of_ble_eq_true rfl) hJ ?_
  intro p e s m args below meth c ls hE hml hr hlk hw hl
  have hl : lv_has ls 6 [(0, .ref (gAd G 3)), (1, .int a1), (2, .int a2), (3, .int a3), (4, .int a4)] := hl
  unfold wp_X6_addStep at hq
  refine lv_aload_n hE.1 hE.2.1 dX6_addStep_0 rfl (lv_at hl 0 rfl) ?_
  refine cgf_X6_46 hE hw dX6_addStep_1 ?_
  refine lv_topi (fun x1 ex1 => ?_)
  have hq := hq x1 ex1
  refine lv_istore (lv' := [(5, .int x1), (0, .ref (gAd G 3)), (1, .int a1), (2, .int a2), (3, .int a3), (4, .int a4)]) hE.1 hE.2.1 dX6_addStep_4 hl (by decide) rfl (fun ls hl => ?_)
  refine lv_aload_n hE.1 hE.2.1 dX6_addStep_6 rfl (lv_at hl 1 rfl) ?_
  refine cgf_X6_9 hE hw dX6_addStep_7 ?_
  refine lv_iload hE.1 hE.2.1 dX6_addStep_10 (lv_at hl 0 rfl) ?_
  refine lv_iload_n hE.1 hE.2.1 dX6_addStep_12 rfl (lv_at hl 2 rfl) ?_
  obtain ⟨hi2, hq⟩ := hq
  refine cas_14 hE hw hi2 dX6_addStep_13 (fun σ1 eσ1 H locs hw => ?_)
  have hq := hq σ1 eσ1
  refine lv_aload_n hE.1 hE.2.1 dX6_addStep_14 rfl (lv_at hl 1 rfl) ?_
  refine cgf_X6_15 hE hw dX6_addStep_15 ?_
  refine lv_iload hE.1 hE.2.1 dX6_addStep_18 (lv_at hl 0 rfl) ?_
  refine lv_iload_n hE.1 hE.2.1 dX6_addStep_20 rfl (lv_at hl 3 rfl) ?_
  obtain ⟨hi3, hq⟩ := hq
  refine cas_15 hE hw hi3 dX6_addStep_21 (fun σ2 eσ2 H locs hw => ?_)
  have hq := hq σ2 eσ2
  refine lv_aload_n hE.1 hE.2.1 dX6_addStep_22 rfl (lv_at hl 1 rfl) ?_
  refine cgf_X6_19 hE hw dX6_addStep_23 ?_
  refine lv_iload hE.1 hE.2.1 dX6_addStep_26 (lv_at hl 0 rfl) ?_
  refine lv_iload_n hE.1 hE.2.1 dX6_addStep_28 rfl (lv_at hl 4 rfl) ?_
  obtain ⟨hi4, hq⟩ := hq
  refine cas_16 hE hw hi4 dX6_addStep_29 (fun σ3 eσ3 H locs hw => ?_)
  have hq := hq σ3 eσ3
  refine lv_aload_n hE.1 hE.2.1 dX6_addStep_30 rfl (lv_at hl 1 rfl) ?_
  refine cgf_X6_22 hE hw dX6_addStep_31 ?_
  refine lv_iload hE.1 hE.2.1 dX6_addStep_34 (lv_at hl 0 rfl) ?_
  refine lv_iload hE.1 hE.2.1 dX6_addStep_36 (lv_at hl 5 rfl) ?_
  obtain ⟨hi5, hq⟩ := hq
  refine cas_17 hE hw hi5 dX6_addStep_38 (fun σ4 eσ4 H locs hw => ?_)
  have hq := hq σ4 eσ4
  refine lv_aload_n hE.1 hE.2.1 dX6_addStep_39 rfl (lv_at hl 1 rfl) ?_
  refine cgf_X6_25 hE hw dX6_addStep_40 ?_
  refine lv_iload hE.1 hE.2.1 dX6_addStep_43 (lv_at hl 0 rfl) ?_
  refine lv_iconst (v := (-1 : Int32)) hE.1 hE.2.1 dX6_addStep_45 (by decide) ?_
  obtain ⟨hi6, hq⟩ := hq
  refine cas_18 hE hw hi6 dX6_addStep_46 (fun σ5 eσ5 H locs hw => ?_)
  have hq := hq σ5 eσ5
  refine lv_aload_n hE.1 hE.2.1 dX6_addStep_47 rfl (lv_at hl 1 rfl) ?_
  refine cgf_X6_28 hE hw dX6_addStep_48 ?_
  refine lv_iload hE.1 hE.2.1 dX6_addStep_51 (lv_at hl 0 rfl) ?_
  refine lv_iconst (v := (-1 : Int32)) hE.1 hE.2.1 dX6_addStep_53 (by decide) ?_
  obtain ⟨hi7, hq⟩ := hq
  refine cas_19 hE hw hi7 dX6_addStep_54 (fun σ6 eσ6 H locs hw => ?_)
  have hq := hq σ6 eσ6
  refine lv_aload_n hE.1 hE.2.1 dX6_addStep_55 rfl (lv_at hl 1 rfl) ?_
  refine cgf_X6_31 hE hw dX6_addStep_56 ?_
  refine lv_iload hE.1 hE.2.1 dX6_addStep_59 (lv_at hl 0 rfl) ?_
  refine lv_iconst (v := (-1 : Int32)) hE.1 hE.2.1 dX6_addStep_61 (by decide) ?_
  obtain ⟨hi8, hq⟩ := hq
  refine cas_20 hE hw hi8 dX6_addStep_62 (fun σ7 eσ7 H locs hw => ?_)
  have hq := hq σ7 eσ7
  refine lv_aload_n hE.1 hE.2.1 dX6_addStep_63 rfl (lv_at hl 1 rfl) ?_
  refine cgf_X6_34 hE hw dX6_addStep_64 ?_
  refine lv_iload hE.1 hE.2.1 dX6_addStep_67 (lv_at hl 0 rfl) ?_
  refine lv_aload_n hE.1 hE.2.1 dX6_addStep_69 rfl (lv_at hl 1 rfl) ?_
  refine lv_iload hE.1 hE.2.1 dX6_addStep_70 (lv_at hl 0 rfl) ?_
  refine clVi (rest := [.int x1, .ref (gAd G 21)]) (As := [.int x1]) hE hml hl.1 hw (c_X6_codeStart hE.2.2.2.2.2 l _ _ _ hq) cu24 cu196 cu27 cu28 cu25 rfl (k := 1) (by decide +kernel) (by decide) (ci := 6) rfl (q0 := 3) rfl rfl rfl (Nat.le_of_ble_eq_true rfl) dX6_addStep_72 (by decide) (fun r9 σ8 hq H locs hw => ?_)
  obtain ⟨hi10, hq⟩ := hq
  refine cas_21 hE hw hi10 dX6_addStep_75 (fun σ9 eσ9 H locs hw => ?_)
  have hq := hq σ9 eσ9
  refine lv_aload_n hE.1 hE.2.1 dX6_addStep_76 rfl (lv_at hl 1 rfl) ?_
  refine lv_dup hE.1 hE.2.1 dX6_addStep_77 rfl ?_
  refine cgf_X6_46 hE hw dX6_addStep_78 ?_
  refine lv_iconst (v := (1 : Int32)) hE.1 hE.2.1 dX6_addStep_81 (by decide) ?_
  refine lv_iadd hE.1 hE.2.1 dX6_addStep_82 ?_
  refine cpf_X6_46 hE hw dX6_addStep_83 (fun σ10 eσ10 H locs hw => ?_)
  have hq := hq σ10 eσ10
  refine lv_iload hE.1 hE.2.1 dX6_addStep_86 (lv_at hl 0 rfl) ?_
  exact rtI hE hr hlk hw hq dX6_addStep_88
/-! QueueBench$Compiler.linkStep()V -/
abbrev rm_X0_linkStep : Room := { frames := 0, cells := 0, slots := 0, locals := 0 }
def wp_X0_linkStep  (σ : S9) (Φ : S9 → Prop) : Prop := vp_in (σ.1 6) 21 ∧ ∀ x2 : Int32, x2 = (σ.2.1 14 ((σ.1 6)).toNatClampNeg) → vp_in (σ.1 6) 21 ∧ ((σ.2.1 16 ((σ.1 6)).toNatClampNeg) = (-1 : Int32) → (x2 = (-1 : Int32) → vp_in (σ.1 8) 27 ∧ ∀ σ5 : S9, σ5 = sA σ 12 (upd (σ.2.1 12) ((σ.1 8)).toNatClampNeg (σ.1 9)) → vp_in (σ5.1 6) 21 ∧ ∀ σ6 : S9, σ6 = sA σ5 16 (upd (σ5.2.1 16) ((σ5.1 6)).toNatClampNeg (σ5.1 9)) → Φ σ6) ∧ (¬ x2 = (-1 : Int32) → vp_in (σ.1 6) 21 ∧ ((σ.2.1 15 ((σ.1 6)).toNatClampNeg) = 0 → vp_in x2 300 ∧ ∀ σ1 : S9, σ1 = sA σ 6 (upd (σ.2.1 6) (x2).toNatClampNeg (σ.1 9)) → vp_in (σ1.1 6) 21 ∧ ∀ σ2 : S9, σ2 = sA σ1 16 (upd (σ1.2.1 16) ((σ1.1 6)).toNatClampNeg (σ1.1 9)) → Φ σ2) ∧ (¬ (σ.2.1 15 ((σ.1 6)).toNatClampNeg) = 0 → vp_in x2 300 ∧ ∀ σ3 : S9, σ3 = sA σ 7 (upd (σ.2.1 7) (x2).toNatClampNeg (σ.1 9)) → vp_in (σ3.1 6) 21 ∧ ∀ σ4 : S9, σ4 = sA σ3 16 (upd (σ3.2.1 16) ((σ3.1 6)).toNatClampNeg (σ3.1 9)) → Φ σ4))) ∧ (¬ (σ.2.1 16 ((σ.1 6)).toNatClampNeg) = (-1 : Int32) → vp_in (σ.1 6) 21 ∧ vp_in (σ.2.1 16 ((σ.1 6)).toNatClampNeg) 300 ∧ ∀ σ7 : S9, σ7 = sA σ 8 (upd (σ.2.1 8) ((σ.2.1 16 ((σ.1 6)).toNatClampNeg)).toNatClampNeg (σ.1 9)) → vp_in (σ7.1 6) 21 ∧ ∀ σ8 : S9, σ8 = sA σ7 16 (upd (σ7.2.1 16) ((σ7.1 6)).toNatClampNeg (σ7.1 9)) → Φ σ8)
theorem dX0_linkStep_0 : decode cX0_linkStep 0 = .ok (.aload_n 0, 1) := by decide +kernel
theorem dX0_linkStep_1 : decode cX0_linkStep 1 = .ok (.getfield 15, 3) := by decide +kernel
theorem dX0_linkStep_4 : decode cX0_linkStep 4 = .ok (.aload_n 0, 1) := by decide +kernel
theorem dX0_linkStep_5 : decode cX0_linkStep 5 = .ok (.getfield 83, 3) := by decide +kernel
theorem dX0_linkStep_8 : decode cX0_linkStep 8 = .ok (.iaload, 1) := by decide +kernel
theorem dX0_linkStep_9 : decode cX0_linkStep 9 = .ok (.istore_n 1, 1) := by decide +kernel
theorem dX0_linkStep_10 : decode cX0_linkStep 10 = .ok (.aload_n 0, 1) := by decide +kernel
theorem dX0_linkStep_11 : decode cX0_linkStep 11 = .ok (.getfield 22, 3) := by decide +kernel
theorem dX0_linkStep_14 : decode cX0_linkStep 14 = .ok (.aload_n 0, 1) := by decide +kernel
theorem dX0_linkStep_15 : decode cX0_linkStep 15 = .ok (.getfield 83, 3) := by decide +kernel
theorem dX0_linkStep_18 : decode cX0_linkStep 18 = .ok (.iaload, 1) := by decide +kernel
theorem dX0_linkStep_19 : decode cX0_linkStep 19 = .ok (.iconst (-1), 1) := by decide +kernel
theorem dX0_linkStep_20 : decode cX0_linkStep 20 = .ok (.if_icmp .eq 27, 3) := by decide +kernel
theorem dX0_linkStep_23 : decode cX0_linkStep 23 = .ok (.aload_n 0, 1) := by decide +kernel
theorem dX0_linkStep_24 : decode cX0_linkStep 24 = .ok (.getfield 34, 3) := by decide +kernel
theorem dX0_linkStep_27 : decode cX0_linkStep 27 = .ok (.getfield 152, 3) := by decide +kernel
theorem dX0_linkStep_30 : decode cX0_linkStep 30 = .ok (.aload_n 0, 1) := by decide +kernel
theorem dX0_linkStep_31 : decode cX0_linkStep 31 = .ok (.getfield 22, 3) := by decide +kernel
theorem dX0_linkStep_34 : decode cX0_linkStep 34 = .ok (.aload_n 0, 1) := by decide +kernel
theorem dX0_linkStep_35 : decode cX0_linkStep 35 = .ok (.getfield 83, 3) := by decide +kernel
theorem dX0_linkStep_38 : decode cX0_linkStep 38 = .ok (.iaload, 1) := by decide +kernel
theorem dX0_linkStep_39 : decode cX0_linkStep 39 = .ok (.aload_n 0, 1) := by decide +kernel
theorem dX0_linkStep_40 : decode cX0_linkStep 40 = .ok (.getfield 143, 3) := by decide +kernel
theorem dX0_linkStep_43 : decode cX0_linkStep 43 = .ok (.iastore, 1) := by decide +kernel
theorem dX0_linkStep_44 : decode cX0_linkStep 44 = .ok (.goto 68, 3) := by decide +kernel
theorem dX0_linkStep_47 : decode cX0_linkStep 47 = .ok (.iload_n 1, 1) := by decide +kernel
theorem dX0_linkStep_48 : decode cX0_linkStep 48 = .ok (.iconst (-1), 1) := by decide +kernel
theorem dX0_linkStep_49 : decode cX0_linkStep 49 = .ok (.if_icmp .ne 22, 3) := by decide +kernel
theorem dX0_linkStep_52 : decode cX0_linkStep 52 = .ok (.aload_n 0, 1) := by decide +kernel
theorem dX0_linkStep_53 : decode cX0_linkStep 53 = .ok (.getfield 34, 3) := by decide +kernel
theorem dX0_linkStep_56 : decode cX0_linkStep 56 = .ok (.getfield 155, 3) := by decide +kernel
theorem dX0_linkStep_59 : decode cX0_linkStep 59 = .ok (.aload_n 0, 1) := by decide +kernel
theorem dX0_linkStep_60 : decode cX0_linkStep 60 = .ok (.getfield 89, 3) := by decide +kernel
theorem dX0_linkStep_63 : decode cX0_linkStep 63 = .ok (.aload_n 0, 1) := by decide +kernel
theorem dX0_linkStep_64 : decode cX0_linkStep 64 = .ok (.getfield 143, 3) := by decide +kernel
theorem dX0_linkStep_67 : decode cX0_linkStep 67 = .ok (.iastore, 1) := by decide +kernel
theorem dX0_linkStep_68 : decode cX0_linkStep 68 = .ok (.goto 44, 3) := by decide +kernel
theorem dX0_linkStep_71 : decode cX0_linkStep 71 = .ok (.aload_n 0, 1) := by decide +kernel
theorem dX0_linkStep_72 : decode cX0_linkStep 72 = .ok (.getfield 19, 3) := by decide +kernel
theorem dX0_linkStep_75 : decode cX0_linkStep 75 = .ok (.aload_n 0, 1) := by decide +kernel
theorem dX0_linkStep_76 : decode cX0_linkStep 76 = .ok (.getfield 83, 3) := by decide +kernel
theorem dX0_linkStep_79 : decode cX0_linkStep 79 = .ok (.baload, 1) := by decide +kernel
theorem dX0_linkStep_80 : decode cX0_linkStep 80 = .ok (.ifCond .eq 19, 3) := by decide +kernel
theorem dX0_linkStep_83 : decode cX0_linkStep 83 = .ok (.aload_n 0, 1) := by decide +kernel
theorem dX0_linkStep_84 : decode cX0_linkStep 84 = .ok (.getfield 34, 3) := by decide +kernel
theorem dX0_linkStep_87 : decode cX0_linkStep 87 = .ok (.getfield 158, 3) := by decide +kernel
theorem dX0_linkStep_90 : decode cX0_linkStep 90 = .ok (.iload_n 1, 1) := by decide +kernel
theorem dX0_linkStep_91 : decode cX0_linkStep 91 = .ok (.aload_n 0, 1) := by decide +kernel
theorem dX0_linkStep_92 : decode cX0_linkStep 92 = .ok (.getfield 143, 3) := by decide +kernel
theorem dX0_linkStep_95 : decode cX0_linkStep 95 = .ok (.iastore, 1) := by decide +kernel
theorem dX0_linkStep_96 : decode cX0_linkStep 96 = .ok (.goto 16, 3) := by decide +kernel
theorem dX0_linkStep_99 : decode cX0_linkStep 99 = .ok (.aload_n 0, 1) := by decide +kernel
theorem dX0_linkStep_100 : decode cX0_linkStep 100 = .ok (.getfield 34, 3) := by decide +kernel
theorem dX0_linkStep_103 : decode cX0_linkStep 103 = .ok (.getfield 161, 3) := by decide +kernel
theorem dX0_linkStep_106 : decode cX0_linkStep 106 = .ok (.iload_n 1, 1) := by decide +kernel
theorem dX0_linkStep_107 : decode cX0_linkStep 107 = .ok (.aload_n 0, 1) := by decide +kernel
theorem dX0_linkStep_108 : decode cX0_linkStep 108 = .ok (.getfield 143, 3) := by decide +kernel
theorem dX0_linkStep_111 : decode cX0_linkStep 111 = .ok (.iastore, 1) := by decide +kernel
theorem dX0_linkStep_112 : decode cX0_linkStep 112 = .ok (.aload_n 0, 1) := by decide +kernel
theorem dX0_linkStep_113 : decode cX0_linkStep 113 = .ok (.getfield 22, 3) := by decide +kernel
theorem dX0_linkStep_116 : decode cX0_linkStep 116 = .ok (.aload_n 0, 1) := by decide +kernel
theorem dX0_linkStep_117 : decode cX0_linkStep 117 = .ok (.getfield 83, 3) := by decide +kernel
theorem dX0_linkStep_120 : decode cX0_linkStep 120 = .ok (.aload_n 0, 1) := by decide +kernel
theorem dX0_linkStep_121 : decode cX0_linkStep 121 = .ok (.getfield 143, 3) := by decide +kernel
theorem dX0_linkStep_124 : decode cX0_linkStep 124 = .ok (.iastore, 1) := by decide +kernel
theorem dX0_linkStep_125 : decode cX0_linkStep 125 = .ok (.return_, 1) := by decide +kernel
set_option maxRecDepth 20000 in
set_option maxHeartbeats 4000000 in
theorem c_X0_linkStep {G : GG} (hJ : gJ 40 G) (l : Launch)  (σ : S9) (Φ : S9 → Prop) (hq : wp_X0_linkStep  σ Φ) : CV cwl 40 G l yX0_linkStep cX0_linkStep 2 rm_X0_linkStep [.ref (gAd G 4)] σ Φ := by
  refine CV.intro (by decide) (Nat.le_of_ble_eq_true rfl) hJ ?_
  intro p e s m args below meth c ls hE hml hr hlk hw hl
  have hl : lv_has ls 2 [(0, .ref (gAd G 4))] := hl
  unfold wp_X0_linkStep at hq
  refine lv_aload_n hE.1 hE.2.1 dX0_linkStep_0 rfl (lv_at hl 0 rfl) ?_
  refine cgf_X0_15 hE hw dX0_linkStep_1 ?_
  refine lv_aload_n hE.1 hE.2.1 dX0_linkStep_4 rfl (lv_at hl 0 rfl) ?_
  refine cgf_X0_83 hE hw dX0_linkStep_5 ?_
  obtain ⟨hi1, hq⟩ := hq
  refine cal_26 hE hw hi1 dX0_linkStep_8 ?_
  refine lv_topi (fun x2 ex2 => ?_)
  have hq := hq x2 ex2
  refine lv_istore_n (lv' := [(1, .int x2), (0, .ref (gAd G 4))]) hE.1 hE.2.1 dX0_linkStep_9 rfl hl (by decide) rfl (fun ls hl => ?_)
  refine lv_aload_n hE.1 hE.2.1 dX0_linkStep_10 rfl (lv_at hl 1 rfl) ?_
  refine cgf_X0_22 hE hw dX0_linkStep_11 ?_
  refine lv_aload_n hE.1 hE.2.1 dX0_linkStep_14 rfl (lv_at hl 1 rfl) ?_
  refine cgf_X0_83 hE hw dX0_linkStep_15 ?_
  obtain ⟨hi3, hq⟩ := hq
  refine cal_28 hE hw hi3 dX0_linkStep_18 ?_
  refine lv_iconst (v := (-1 : Int32)) hE.1 hE.2.1 dX0_linkStep_19 (by decide) ?_
  refine lv_icmp_eq (tgt := 47) hE.1 hE.2.1 dX0_linkStep_20 (by decide) (fun c4 => ?_) (fun c4 => ?_)
  · have hq := hq.1 c4
    refine lv_iload_n hE.1 hE.2.1 dX0_linkStep_47 rfl (lv_at hl 0 rfl) ?_
    refine lv_iconst (v := (-1 : Int32)) hE.1 hE.2.1 dX0_linkStep_48 (by decide) ?_
    refine lv_icmp_ne (tgt := 71) hE.1 hE.2.1 dX0_linkStep_49 (by decide) (fun c5 => ?_) (fun c5 => ?_)
    · have hq := hq.2 c5
      refine lv_aload_n hE.1 hE.2.1 dX0_linkStep_71 rfl (lv_at hl 1 rfl) ?_
      refine cgf_X0_19 hE hw dX0_linkStep_72 ?_
      refine lv_aload_n hE.1 hE.2.1 dX0_linkStep_75 rfl (lv_at hl 1 rfl) ?_
      refine cgf_X0_83 hE hw dX0_linkStep_76 ?_
      obtain ⟨hi6, hq⟩ := hq
      refine cal_27 hE hw hi6 dX0_linkStep_79 ?_
      refine lv_if_eq (tgt := 99) hE.1 hE.2.1 dX0_linkStep_80 (by decide) (fun c7 => ?_) (fun c7 => ?_)
      · have hq := hq.1 c7
        refine lv_aload_n hE.1 hE.2.1 dX0_linkStep_99 rfl (lv_at hl 1 rfl) ?_
        refine cgf_X0_34 hE hw dX0_linkStep_100 ?_
        refine cgf_X0_161 hE hw dX0_linkStep_103 ?_
        refine lv_iload_n hE.1 hE.2.1 dX0_linkStep_106 rfl (lv_at hl 0 rfl) ?_
        refine lv_aload_n hE.1 hE.2.1 dX0_linkStep_107 rfl (lv_at hl 1 rfl) ?_
        refine cgf_X0_143 hE hw dX0_linkStep_108 ?_
        obtain ⟨hi8, hq⟩ := hq
        refine cas_18 hE hw hi8 dX0_linkStep_111 (fun σ1 eσ1 H locs hw => ?_)
        have hq := hq σ1 eσ1
        refine lv_aload_n hE.1 hE.2.1 dX0_linkStep_112 rfl (lv_at hl 1 rfl) ?_
        refine cgf_X0_22 hE hw dX0_linkStep_113 ?_
        refine lv_aload_n hE.1 hE.2.1 dX0_linkStep_116 rfl (lv_at hl 1 rfl) ?_
        refine cgf_X0_83 hE hw dX0_linkStep_117 ?_
        refine lv_aload_n hE.1 hE.2.1 dX0_linkStep_120 rfl (lv_at hl 1 rfl) ?_
        refine cgf_X0_143 hE hw dX0_linkStep_121 ?_
        obtain ⟨hi9, hq⟩ := hq
        refine cas_28 hE hw hi9 dX0_linkStep_124 (fun σ2 eσ2 H locs hw => ?_)
        have hq := hq σ2 eσ2
        exact rtV hE hr hlk hw hq dX0_linkStep_125
      · have hq := hq.2 c7
        refine lv_aload_n hE.1 hE.2.1 dX0_linkStep_83 rfl (lv_at hl 1 rfl) ?_
        refine cgf_X0_34 hE hw dX0_linkStep_84 ?_
        refine cgf_X0_158 hE hw dX0_linkStep_87 ?_
        refine lv_iload_n hE.1 hE.2.1 dX0_linkStep_90 rfl (lv_at hl 0 rfl) ?_
        refine lv_aload_n hE.1 hE.2.1 dX0_linkStep_91 rfl (lv_at hl 1 rfl) ?_
        refine cgf_X0_143 hE hw dX0_linkStep_92 ?_
        obtain ⟨hi10, hq⟩ := hq
        refine cas_19 hE hw hi10 dX0_linkStep_95 (fun σ3 eσ3 H locs hw => ?_)
        have hq := hq σ3 eσ3
        refine lv_goto (tgt := 112) hE.1 hE.2.1 dX0_linkStep_96 (by decide) ?_
        refine lv_aload_n hE.1 hE.2.1 dX0_linkStep_112 rfl (lv_at hl 1 rfl) ?_
        refine cgf_X0_22 hE hw dX0_linkStep_113 ?_
        refine lv_aload_n hE.1 hE.2.1 dX0_linkStep_116 rfl (lv_at hl 1 rfl) ?_
        refine cgf_X0_83 hE hw dX0_linkStep_117 ?_
        refine lv_aload_n hE.1 hE.2.1 dX0_linkStep_120 rfl (lv_at hl 1 rfl) ?_
        refine cgf_X0_143 hE hw dX0_linkStep_121 ?_
        obtain ⟨hi11, hq⟩ := hq
        refine cas_28 hE hw hi11 dX0_linkStep_124 (fun σ4 eσ4 H locs hw => ?_)
        have hq := hq σ4 eσ4
        exact rtV hE hr hlk hw hq dX0_linkStep_125
    · have hq := hq.1 c5
      refine lv_aload_n hE.1 hE.2.1 dX0_linkStep_52 rfl (lv_at hl 1 rfl) ?_
      refine cgf_X0_34 hE hw dX0_linkStep_53 ?_
      refine cgf_X0_155 hE hw dX0_linkStep_56 ?_
      refine lv_aload_n hE.1 hE.2.1 dX0_linkStep_59 rfl (lv_at hl 1 rfl) ?_
      refine cgf_X0_89 hE hw dX0_linkStep_60 ?_
      refine lv_aload_n hE.1 hE.2.1 dX0_linkStep_63 rfl (lv_at hl 1 rfl) ?_
      refine cgf_X0_143 hE hw dX0_linkStep_64 ?_
      obtain ⟨hi12, hq⟩ := hq
      refine cas_24 hE hw hi12 dX0_linkStep_67 (fun σ5 eσ5 H locs hw => ?_)
      have hq := hq σ5 eσ5
      refine lv_goto (tgt := 112) hE.1 hE.2.1 dX0_linkStep_68 (by decide) ?_
      refine lv_aload_n hE.1 hE.2.1 dX0_linkStep_112 rfl (lv_at hl 1 rfl) ?_
      refine cgf_X0_22 hE hw dX0_linkStep_113 ?_
      refine lv_aload_n hE.1 hE.2.1 dX0_linkStep_116 rfl (lv_at hl 1 rfl) ?_
      refine cgf_X0_83 hE hw dX0_linkStep_117 ?_
      refine lv_aload_n hE.1 hE.2.1 dX0_linkStep_120 rfl (lv_at hl 1 rfl) ?_
      refine cgf_X0_143 hE hw dX0_linkStep_121 ?_
      obtain ⟨hi13, hq⟩ := hq
      refine cas_28 hE hw hi13 dX0_linkStep_124 (fun σ6 eσ6 H locs hw => ?_)
      have hq := hq σ6 eσ6
      exact rtV hE hr hlk hw hq dX0_linkStep_125
  · have hq := hq.2 c4
    refine lv_aload_n hE.1 hE.2.1 dX0_linkStep_23 rfl (lv_at hl 1 rfl) ?_
    refine cgf_X0_34 hE hw dX0_linkStep_24 ?_
    refine cgf_X0_152 hE hw dX0_linkStep_27 ?_
    refine lv_aload_n hE.1 hE.2.1 dX0_linkStep_30 rfl (lv_at hl 1 rfl) ?_
    refine cgf_X0_22 hE hw dX0_linkStep_31 ?_
    refine lv_aload_n hE.1 hE.2.1 dX0_linkStep_34 rfl (lv_at hl 1 rfl) ?_
    refine cgf_X0_83 hE hw dX0_linkStep_35 ?_
    obtain ⟨hi14, hq⟩ := hq
    refine cal_28 hE hw hi14 dX0_linkStep_38 ?_
    refine lv_aload_n hE.1 hE.2.1 dX0_linkStep_39 rfl (lv_at hl 1 rfl) ?_
    refine cgf_X0_143 hE hw dX0_linkStep_40 ?_
    obtain ⟨hi15, hq⟩ := hq
    refine cas_20 hE hw hi15 dX0_linkStep_43 (fun σ7 eσ7 H locs hw => ?_)
    have hq := hq σ7 eσ7
    refine lv_goto (tgt := 112) hE.1 hE.2.1 dX0_linkStep_44 (by decide) ?_
    refine lv_aload_n hE.1 hE.2.1 dX0_linkStep_112 rfl (lv_at hl 1 rfl) ?_
    refine cgf_X0_22 hE hw dX0_linkStep_113 ?_
    refine lv_aload_n hE.1 hE.2.1 dX0_linkStep_116 rfl (lv_at hl 1 rfl) ?_
    refine cgf_X0_83 hE hw dX0_linkStep_117 ?_
    refine lv_aload_n hE.1 hE.2.1 dX0_linkStep_120 rfl (lv_at hl 1 rfl) ?_
    refine cgf_X0_143 hE hw dX0_linkStep_121 ?_
    obtain ⟨hi16, hq⟩ := hq
    refine cas_28 hE hw hi16 dX0_linkStep_124 (fun σ8 eσ8 H locs hw => ?_)
    have hq := hq σ8 eσ8
    exact rtV hE hr hlk hw hq dX0_linkStep_125
/-! QueueBench$Expression.begin()V -/
abbrev rm_X1_begin : Room := { frames := 0, cells := 0, slots := 0, locals := 0 }
def wp_X1_begin  (σ : S9) (Φ : S9 → Prop) : Prop := ∀ σ1 : S9, σ1 = sF σ 13 (0 : Int32) → ∀ σ2 : S9, σ2 = sF σ1 14 (0 : Int32) → ∀ σ3 : S9, σ3 = sF σ2 15 (0 : Int32) → ∀ σ4 : S9, σ4 = sF σ3 16 (1 : Int32) → Φ σ4
theorem dX1_begin_0 : decode cX1_begin 0 = .ok (.aload_n 0, 1) := by decide +kernel
theorem dX1_begin_1 : decode cX1_begin 1 = .ok (.iconst 0, 1) := by decide +kernel
theorem dX1_begin_2 : decode cX1_begin 2 = .ok (.putfield 27, 3) := by decide +kernel
theorem dX1_begin_5 : decode cX1_begin 5 = .ok (.aload_n 0, 1) := by decide +kernel
theorem dX1_begin_6 : decode cX1_begin 6 = .ok (.iconst 0, 1) := by decide +kernel
theorem dX1_begin_7 : decode cX1_begin 7 = .ok (.putfield 31, 3) := by decide +kernel
theorem dX1_begin_10 : decode cX1_begin 10 = .ok (.aload_n 0, 1) := by decide +kernel
theorem dX1_begin_11 : decode cX1_begin 11 = .ok (.iconst 0, 1) := by decide +kernel
theorem dX1_begin_12 : decode cX1_begin 12 = .ok (.putfield 34, 3) := by decide +kernel
theorem dX1_begin_15 : decode cX1_begin 15 = .ok (.aload_n 0, 1) := by decide +kernel
theorem dX1_begin_16 : decode cX1_begin 16 = .ok (.iconst 1, 1) := by decide +kernel
theorem dX1_begin_17 : decode cX1_begin 17 = .ok (.putfield 37, 3) := by decide +kernel
theorem dX1_begin_20 : decode cX1_begin 20 = .ok (.return_, 1) := by decide +kernel
set_option maxRecDepth 20000 in
set_option maxHeartbeats 4000000 in
theorem c_X1_begin {G : GG} (hJ : gJ 40 G) (l : Launch)  (σ : S9) (Φ : S9 → Prop) (hq : wp_X1_begin  σ Φ) : CV cwl 40 G l yX1_begin cX1_begin 1 rm_X1_begin [.ref (gAd G 6)] σ Φ := by
  refine CV.intro (by decide) (Nat.le_of_ble_eq_true rfl) hJ ?_
  intro p e s m args below meth c ls hE hml hr hlk hw hl
  have hl : lv_has ls 1 [(0, .ref (gAd G 6))] := hl
  unfold wp_X1_begin at hq
  refine lv_aload_n hE.1 hE.2.1 dX1_begin_0 rfl (lv_at hl 0 rfl) ?_
  refine lv_iconst (v := (0 : Int32)) hE.1 hE.2.1 dX1_begin_1 (by decide) ?_
  refine cpf_X1_27 hE hw dX1_begin_2 (fun σ1 eσ1 H locs hw => ?_)
  have hq := hq σ1 eσ1
  refine lv_aload_n hE.1 hE.2.1 dX1_begin_5 rfl (lv_at hl 0 rfl) ?_
  refine lv_iconst (v := (0 : Int32)) hE.1 hE.2.1 dX1_begin_6 (by decide) ?_
  refine cpf_X1_31 hE hw dX1_begin_7 (fun σ2 eσ2 H locs hw => ?_)
  have hq := hq σ2 eσ2
  refine lv_aload_n hE.1 hE.2.1 dX1_begin_10 rfl (lv_at hl 0 rfl) ?_
  refine lv_iconst (v := (0 : Int32)) hE.1 hE.2.1 dX1_begin_11 (by decide) ?_
  refine cpf_X1_34 hE hw dX1_begin_12 (fun σ3 eσ3 H locs hw => ?_)
  have hq := hq σ3 eσ3
  refine lv_aload_n hE.1 hE.2.1 dX1_begin_15 rfl (lv_at hl 0 rfl) ?_
  refine lv_iconst (v := (1 : Int32)) hE.1 hE.2.1 dX1_begin_16 (by decide) ?_
  refine cpf_X1_37 hE hw rfl (by decide) dX1_begin_17 (fun σ4 eσ4 H locs hw => ?_)
  have hq := hq σ4 eσ4
  exact rtV hE hr hlk hw hq dX1_begin_20
/-! QueueBench$Compiler.addsStep(CI)Z -/
abbrev rm_X0_addsStep : Room := { frames := 2, cells := 0, slots := 0, locals := 46 }
def wp_X0_addsStep (a1 : Int32) (a2 : Int32) (σ : S9) (Φ : Int32 → S9 → Prop) : Prop := ((σ.1 4) = (300 : Int32) → Φ (0 : Int32) σ) ∧ (¬ (σ.1 4) = (300 : Int32) → vp_in (σ.1 6) 21 ∧ wp_X6_addStep a1 (σ.1 10) a2 (σ.2.1 14 ((σ.1 6)).toNatClampNeg) σ (fun r3 σ1 => ∀ σ2 : S9, σ2 = sF σ1 9 r3 → wp_X0_linkStep σ2 (fun σ3 => wp_X1_begin σ3 (fun σ4 => Φ (1 : Int32) σ4))))
theorem dX0_addsStep_0 : decode cX0_addsStep 0 = .ok (.aload_n 0, 1) := by decide +kernel
theorem dX0_addsStep_1 : decode cX0_addsStep 1 = .ok (.getfield 34, 3) := by decide +kernel
theorem dX0_addsStep_4 : decode cX0_addsStep 4 = .ok (.getfield 136, 3) := by decide +kernel
theorem dX0_addsStep_7 : decode cX0_addsStep 7 = .ok (.sipush 300, 3) := by decide +kernel
theorem dX0_addsStep_10 : decode cX0_addsStep 10 = .ok (.if_icmp .ne 5, 3) := by decide +kernel
theorem dX0_addsStep_13 : decode cX0_addsStep 13 = .ok (.iconst 0, 1) := by decide +kernel
theorem dX0_addsStep_14 : decode cX0_addsStep 14 = .ok (.ireturn, 1) := by decide +kernel
theorem dX0_addsStep_15 : decode cX0_addsStep 15 = .ok (.aload_n 0, 1) := by decide +kernel
theorem dX0_addsStep_16 : decode cX0_addsStep 16 = .ok (.aload_n 0, 1) := by decide +kernel
theorem dX0_addsStep_17 : decode cX0_addsStep 17 = .ok (.getfield 34, 3) := by decide +kernel
theorem dX0_addsStep_20 : decode cX0_addsStep 20 = .ok (.iload_n 1, 1) := by decide +kernel
theorem dX0_addsStep_21 : decode cX0_addsStep 21 = .ok (.aload_n 0, 1) := by decide +kernel
theorem dX0_addsStep_22 : decode cX0_addsStep 22 = .ok (.getfield 30, 3) := by decide +kernel
theorem dX0_addsStep_25 : decode cX0_addsStep 25 = .ok (.getfield 71, 3) := by decide +kernel
theorem dX0_addsStep_28 : decode cX0_addsStep 28 = .ok (.iload_n 2, 1) := by decide +kernel
theorem dX0_addsStep_29 : decode cX0_addsStep 29 = .ok (.aload_n 0, 1) := by decide +kernel
theorem dX0_addsStep_30 : decode cX0_addsStep 30 = .ok (.getfield 15, 3) := by decide +kernel
theorem dX0_addsStep_33 : decode cX0_addsStep 33 = .ok (.aload_n 0, 1) := by decide +kernel
theorem dX0_addsStep_34 : decode cX0_addsStep 34 = .ok (.getfield 83, 3) := by decide +kernel
theorem dX0_addsStep_37 : decode cX0_addsStep 37 = .ok (.iaload, 1) := by decide +kernel
theorem dX0_addsStep_38 : decode cX0_addsStep 38 = .ok (.invokevirtual 139, 3) := by decide +kernel
theorem dX0_addsStep_41 : decode cX0_addsStep 41 = .ok (.putfield 143, 3) := by decide +kernel
theorem dX0_addsStep_44 : decode cX0_addsStep 44 = .ok (.aload_n 0, 1) := by decide +kernel
theorem dX0_addsStep_45 : decode cX0_addsStep 45 = .ok (.invokevirtual 146, 3) := by decide +kernel
theorem dX0_addsStep_48 : decode cX0_addsStep 48 = .ok (.aload_n 0, 1) := by decide +kernel
theorem dX0_addsStep_49 : decode cX0_addsStep 49 = .ok (.getfield 43, 3) := by decide +kernel
theorem dX0_addsStep_52 : decode cX0_addsStep 52 = .ok (.invokevirtual 149, 3) := by decide +kernel
theorem dX0_addsStep_55 : decode cX0_addsStep 55 = .ok (.iconst 1, 1) := by decide +kernel
theorem dX0_addsStep_56 : decode cX0_addsStep 56 = .ok (.ireturn, 1) := by decide +kernel
set_option maxRecDepth 20000 in
set_option maxHeartbeats 4000000 in
theorem c_X0_addsStep {G : GG} (hJ : gJ 40 G) (l : Launch) (a1 : Int32) (a2 : Int32) (σ : S9) (Φ : Int32 → S9 → Prop) (hq : wp_X0_addsStep a1 a2 σ Φ) : CI cwl 40 G l yX0_addsStep cX0_addsStep 3 (some .boolean) rm_X0_addsStep [.ref (gAd G 4), .int a1, .int a2] σ Φ := by
  refine CI.intro (by decide) (Nat.le_of_ble_eq_true rfl) hJ ?_
  intro p e s m args below meth c ls hE hml hr hlk hw hl
  have hl : lv_has ls 3 [(0, .ref (gAd G 4)), (1, .int a1), (2, .int a2)] := hl
  unfold wp_X0_addsStep at hq
  refine lv_aload_n hE.1 hE.2.1 dX0_addsStep_0 rfl (lv_at hl 0 rfl) ?_
  refine cgf_X0_34 hE hw dX0_addsStep_1 ?_
  refine cgf_X0_136 hE hw dX0_addsStep_4 ?_
  refine lv_sipush (v := (300 : Int32)) hE.1 hE.2.1 dX0_addsStep_7 (by decide) ?_
  refine lv_icmp_ne (tgt := 15) hE.1 hE.2.1 dX0_addsStep_10 (by decide) (fun c1 => ?_) (fun c1 => ?_)
  · have hq := hq.2 c1
    refine lv_aload_n hE.1 hE.2.1 dX0_addsStep_15 rfl (lv_at hl 0 rfl) ?_
    refine lv_aload_n hE.1 hE.2.1 dX0_addsStep_16 rfl (lv_at hl 0 rfl) ?_
    refine cgf_X0_34 hE hw dX0_addsStep_17 ?_
    refine lv_iload_n hE.1 hE.2.1 dX0_addsStep_20 rfl (lv_at hl 1 rfl) ?_
    refine lv_aload_n hE.1 hE.2.1 dX0_addsStep_21 rfl (lv_at hl 0 rfl) ?_
    refine cgf_X0_30 hE hw dX0_addsStep_22 ?_
    refine cgf_X0_71 hE hw dX0_addsStep_25 ?_
    refine lv_iload_n hE.1 hE.2.1 dX0_addsStep_28 rfl (lv_at hl 2 rfl) ?_
    refine lv_aload_n hE.1 hE.2.1 dX0_addsStep_29 rfl (lv_at hl 0 rfl) ?_
    refine cgf_X0_15 hE hw dX0_addsStep_30 ?_
    refine lv_aload_n hE.1 hE.2.1 dX0_addsStep_33 rfl (lv_at hl 0 rfl) ?_
    refine cgf_X0_83 hE hw dX0_addsStep_34 ?_
    obtain ⟨hi2, hq⟩ := hq
    refine cal_26 hE hw hi2 dX0_addsStep_37 ?_
    refine clVi (rest := [.ref (gAd G 4)]) (As := [.int a1, .int (σ.1 10), .int a2, .int (σ.2.1 14 ((σ.1 6)).toNatClampNeg)]) hE hml hl.1 hw (c_X6_addStep hE.2.2.2.2.2 l _ _ _ _ _ _ hq) cu197 cu198 cu199 cu200 cu25 rfl (k := 4) (by decide +kernel) (by decide) (ci := 6) rfl (q0 := 3) rfl rfl rfl (Nat.le_of_ble_eq_true rfl) dX0_addsStep_38 (by decide) (fun r3 σ1 hq H locs hw => ?_)
    refine cpf_X0_143 hE hw dX0_addsStep_41 (fun σ2 eσ2 H locs hw => ?_)
    have hq := hq σ2 eσ2
    refine lv_aload_n hE.1 hE.2.1 dX0_addsStep_44 rfl (lv_at hl 0 rfl) ?_
    refine clVv (rest := []) (As := []) hE hml hl.1 hw (c_X0_linkStep hE.2.2.2.2.2 l _ _ hq) cu203 cu204 cu205 cu206 cu138 rfl (k := 0) (by decide +kernel) (by decide) (ci := 0) rfl (q0 := 4) rfl rfl rfl (Nat.le_of_ble_eq_true rfl) dX0_addsStep_45 (by decide) (fun σ3 hq H locs hw => ?_)
    refine lv_aload_n hE.1 hE.2.1 dX0_addsStep_48 rfl (lv_at hl 0 rfl) ?_
    refine cgf_X0_43 hE hw dX0_addsStep_49 ?_
    refine clVv (rest := []) (As := []) hE hml hl.1 hw (c_X1_begin hE.2.2.2.2.2 l _ _ hq) cu212 cu214 cu215 cu216 cu213 rfl (k := 0) (by decide +kernel) (by decide) (ci := 1) rfl (q0 := 6) rfl rfl rfl (Nat.le_of_ble_eq_true rfl) dX0_addsStep_52 (by decide) (fun σ4 hq H locs hw => ?_)
    refine lv_iconst (v := (1 : Int32)) hE.1 hE.2.1 dX0_addsStep_55 (by decide) ?_
    exact rtZ hE hr hlk rfl hw hq dX0_addsStep_56
  · have hq := hq.1 c1
    refine lv_iconst (v := (0 : Int32)) hE.1 hE.2.1 dX0_addsStep_13 (by decide) ?_
    exact rtZ hE hr hlk rfl hw hq dX0_addsStep_14
/-! QueueBench$Compiler.awaits(I)Z -/
abbrev rm_X0_awaits : Room := { frames := 0, cells := 0, slots := 0, locals := 0 }
def wp_X0_awaits (a1 : Int32) (σ : S9) (Φ : Int32 → S9 → Prop) : Prop := ∀ σ1 : S9, σ1 = sF σ 7 a1 → Φ (1 : Int32) σ1
theorem dX0_awaits_0 : decode cX0_awaits 0 = .ok (.aload_n 0, 1) := by decide +kernel
theorem dX0_awaits_1 : decode cX0_awaits 1 = .ok (.iload_n 1, 1) := by decide +kernel
theorem dX0_awaits_2 : decode cX0_awaits 2 = .ok (.putfield 86, 3) := by decide +kernel
theorem dX0_awaits_5 : decode cX0_awaits 5 = .ok (.iconst 1, 1) := by decide +kernel
theorem dX0_awaits_6 : decode cX0_awaits 6 = .ok (.ireturn, 1) := by decide +kernel
set_option maxRecDepth 20000 in
set_option maxHeartbeats 4000000 in
theorem c_X0_awaits {G : GG} (hJ : gJ 40 G) (l : Launch) (a1 : Int32) (σ : S9) (Φ : Int32 → S9 → Prop) (hq : wp_X0_awaits a1 σ Φ) : CI cwl 40 G l yX0_awaits cX0_awaits 2 (some .boolean) rm_X0_awaits [.ref (gAd G 4), .int a1] σ Φ := by
  refine CI.intro (by decide) (Nat.le_of_ble_eq_true rfl) hJ ?_
  intro p e s m args below meth c ls hE hml hr hlk hw hl
  have hl : lv_has ls 2 [(0, .ref (gAd G 4)), (1, .int a1)] := hl
  unfold wp_X0_awaits at hq
  refine lv_aload_n hE.1 hE.2.1 dX0_awaits_0 rfl (lv_at hl 0 rfl) ?_
  refine lv_iload_n hE.1 hE.2.1 dX0_awaits_1 rfl (lv_at hl 1 rfl) ?_
  refine cpf_X0_86 hE hw dX0_awaits_2 (fun σ1 eσ1 H locs hw => ?_)
  have hq := hq σ1 eσ1
  refine lv_iconst (v := (1 : Int32)) hE.1 hE.2.1 dX0_awaits_5 (by decide) ?_
  exact rtZ hE hr hlk rfl hw hq dX0_awaits_6
/-! QueueBench$Compiler.closeDefinition()V -/
abbrev rm_X0_closeDefinition : Room := { frames := 0, cells := 0, slots := 0, locals := 0 }
def wp_X0_closeDefinition  (σ : S9) (Φ : S9 → Prop) : Prop := vp_in (σ.1 8) 26 ∧ ∀ σ1 : S9, σ1 = sA σ 13 (upd (σ.2.1 13) ((σ.1 8)).toNatClampNeg (vp_nar .boolean (1 : Int32))) → ∀ σ2 : S9, σ2 = sF σ1 5 ((σ1.1 5) + (1 : Int32)) → ∀ σ3 : S9, σ3 = sF σ2 8 (26 : Int32) → Φ σ3
theorem dX0_closeDefinition_0 : decode cX0_closeDefinition 0 = .ok (.aload_n 0, 1) := by decide +kernel
theorem dX0_closeDefinition_1 : decode cX0_closeDefinition 1 = .ok (.getfield 9, 3) := by decide +kernel
theorem dX0_closeDefinition_4 : decode cX0_closeDefinition 4 = .ok (.aload_n 0, 1) := by decide +kernel
theorem dX0_closeDefinition_5 : decode cX0_closeDefinition 5 = .ok (.getfield 89, 3) := by decide +kernel
theorem dX0_closeDefinition_8 : decode cX0_closeDefinition 8 = .ok (.iconst 1, 1) := by decide +kernel
theorem dX0_closeDefinition_9 : decode cX0_closeDefinition 9 = .ok (.bastore, 1) := by decide +kernel
theorem dX0_closeDefinition_10 : decode cX0_closeDefinition 10 = .ok (.aload_n 0, 1) := by decide +kernel
theorem dX0_closeDefinition_11 : decode cX0_closeDefinition 11 = .ok (.getfield 34, 3) := by decide +kernel
theorem dX0_closeDefinition_14 : decode cX0_closeDefinition 14 = .ok (.dup, 1) := by decide +kernel
theorem dX0_closeDefinition_15 : decode cX0_closeDefinition 15 = .ok (.getfield 177, 3) := by decide +kernel
theorem dX0_closeDefinition_18 : decode cX0_closeDefinition 18 = .ok (.iconst 1, 1) := by decide +kernel
theorem dX0_closeDefinition_19 : decode cX0_closeDefinition 19 = .ok (.iadd, 1) := by decide +kernel
theorem dX0_closeDefinition_20 : decode cX0_closeDefinition 20 = .ok (.putfield 177, 3) := by decide +kernel
theorem dX0_closeDefinition_23 : decode cX0_closeDefinition 23 = .ok (.aload_n 0, 1) := by decide +kernel
theorem dX0_closeDefinition_24 : decode cX0_closeDefinition 24 = .ok (.bipush 26, 2) := by decide +kernel
theorem dX0_closeDefinition_26 : decode cX0_closeDefinition 26 = .ok (.putfield 89, 3) := by decide +kernel
theorem dX0_closeDefinition_29 : decode cX0_closeDefinition 29 = .ok (.return_, 1) := by decide +kernel
set_option maxRecDepth 20000 in
set_option maxHeartbeats 4000000 in
theorem c_X0_closeDefinition {G : GG} (hJ : gJ 40 G) (l : Launch)  (σ : S9) (Φ : S9 → Prop) (hq : wp_X0_closeDefinition  σ Φ) : CV cwl 40 G l yX0_closeDefinition cX0_closeDefinition 1 rm_X0_closeDefinition [.ref (gAd G 4)] σ Φ := by
  refine CV.intro (by decide) (Nat.le_of_ble_eq_true rfl) hJ ?_
  intro p e s m args below meth c ls hE hml hr hlk hw hl
  have hl : lv_has ls 1 [(0, .ref (gAd G 4))] := hl
  unfold wp_X0_closeDefinition at hq
  refine lv_aload_n hE.1 hE.2.1 dX0_closeDefinition_0 rfl (lv_at hl 0 rfl) ?_
  refine cgf_X0_9 hE hw dX0_closeDefinition_1 ?_
  refine lv_aload_n hE.1 hE.2.1 dX0_closeDefinition_4 rfl (lv_at hl 0 rfl) ?_
  refine cgf_X0_89 hE hw dX0_closeDefinition_5 ?_
  refine lv_iconst (v := (1 : Int32)) hE.1 hE.2.1 dX0_closeDefinition_8 (by decide) ?_
  obtain ⟨hi1, hq⟩ := hq
  refine cas_25 hE hw hi1 dX0_closeDefinition_9 (fun σ1 eσ1 H locs hw => ?_)
  have hq := hq σ1 eσ1
  refine lv_aload_n hE.1 hE.2.1 dX0_closeDefinition_10 rfl (lv_at hl 0 rfl) ?_
  refine cgf_X0_34 hE hw dX0_closeDefinition_11 ?_
  refine lv_dup hE.1 hE.2.1 dX0_closeDefinition_14 rfl ?_
  refine cgf_X0_177 hE hw dX0_closeDefinition_15 ?_
  refine lv_iconst (v := (1 : Int32)) hE.1 hE.2.1 dX0_closeDefinition_18 (by decide) ?_
  refine lv_iadd hE.1 hE.2.1 dX0_closeDefinition_19 ?_
  refine cpf_X0_177 hE hw dX0_closeDefinition_20 (fun σ2 eσ2 H locs hw => ?_)
  have hq := hq σ2 eσ2
  refine lv_aload_n hE.1 hE.2.1 dX0_closeDefinition_23 rfl (lv_at hl 0 rfl) ?_
  refine lv_bipush (v := (26 : Int32)) hE.1 hE.2.1 dX0_closeDefinition_24 (by decide) ?_
  refine cpf_X0_89 hE hw dX0_closeDefinition_26 (fun σ3 eσ3 H locs hw => ?_)
  have hq := hq σ3 eσ3
  exact rtV hE hr hlk hw hq dX0_closeDefinition_29
/-! QueueBench$Compiler.closesBlock()Z -/
abbrev rm_X0_closesBlock : Room := { frames := 1, cells := 0, slots := 0, locals := 21 }
def wp_X0_closesBlock_b75  (Φ : Int32 → S9 → Prop) (a2 : Int32) (σ : S9) : Prop := (a2 = 0 → wp_X0_awaits (0 : Int32) σ (fun r2 σ1 => narrow .boolean (.int r2) = .int r2 ∧ Φ r2 σ1)) ∧ (¬ a2 = 0 → wp_X0_awaits (1 : Int32) σ (fun r3 σ2 => narrow .boolean (.int r3) = .int r3 ∧ Φ r3 σ2))
def wp_X0_closesBlock_b55  (Φ : Int32 → S9 → Prop) (a1 : Int32) (t0 : Int32) (σ : S9) : Prop := ∀ σ1 : S9, σ1 = sF σ 6 ((σ.1 6) - (1 : Int32)) → (a1 = (-1 : Int32) → wp_X0_closeDefinition σ1 (fun σ2 => wp_X0_closesBlock_b75  Φ t0 σ2)) ∧ (¬ a1 = (-1 : Int32) → wp_X0_closesBlock_b75  Φ t0 σ1)
def wp_X0_closesBlock_b54  (Φ : Int32 → S9 → Prop) (a1 : Int32) (σ : S9) : Prop := wp_X0_closesBlock_b55  Φ a1 (0 : Int32) σ
def wp_X0_closesBlock  (σ : S9) (Φ : Int32 → S9 → Prop) : Prop := ((σ.1 6) = 0 → Φ (0 : Int32) σ) ∧ (¬ (σ.1 6) = 0 → vp_in (σ.1 6) 21 ∧ ∀ x3 : Int32, x3 = (σ.2.1 14 ((σ.1 6)).toNatClampNeg) → (x3 = (-1 : Int32) → wp_X0_closesBlock_b54  Φ x3 σ) ∧ (¬ x3 = (-1 : Int32) → vp_in x3 300 ∧ ((σ.2.1 2 (x3).toNatClampNeg) = (63 : Int32) → vp_in (σ.1 6) 21 ∧ ((σ.2.1 15 ((σ.1 6)).toNatClampNeg) = 0 → wp_X0_closesBlock_b55  Φ x3 (1 : Int32) σ) ∧ (¬ (σ.2.1 15 ((σ.1 6)).toNatClampNeg) = 0 → wp_X0_closesBlock_b54  Φ x3 σ)) ∧ (¬ (σ.2.1 2 (x3).toNatClampNeg) = (63 : Int32) → wp_X0_closesBlock_b54  Φ x3 σ)))
theorem dX0_closesBlock_0 : decode cX0_closesBlock 0 = .ok (.aload_n 0, 1) := by decide +kernel
theorem dX0_closesBlock_1 : decode cX0_closesBlock 1 = .ok (.getfield 83, 3) := by decide +kernel
theorem dX0_closesBlock_4 : decode cX0_closesBlock 4 = .ok (.ifCond .ne 5, 3) := by decide +kernel
theorem dX0_closesBlock_7 : decode cX0_closesBlock 7 = .ok (.iconst 0, 1) := by decide +kernel
theorem dX0_closesBlock_8 : decode cX0_closesBlock 8 = .ok (.ireturn, 1) := by decide +kernel
theorem dX0_closesBlock_9 : decode cX0_closesBlock 9 = .ok (.aload_n 0, 1) := by decide +kernel
theorem dX0_closesBlock_10 : decode cX0_closesBlock 10 = .ok (.getfield 15, 3) := by decide +kernel
theorem dX0_closesBlock_13 : decode cX0_closesBlock 13 = .ok (.aload_n 0, 1) := by decide +kernel
theorem dX0_closesBlock_14 : decode cX0_closesBlock 14 = .ok (.getfield 83, 3) := by decide +kernel
theorem dX0_closesBlock_17 : decode cX0_closesBlock 17 = .ok (.iaload, 1) := by decide +kernel
theorem dX0_closesBlock_18 : decode cX0_closesBlock 18 = .ok (.istore_n 1, 1) := by decide +kernel
theorem dX0_closesBlock_19 : decode cX0_closesBlock 19 = .ok (.iload_n 1, 1) := by decide +kernel
theorem dX0_closesBlock_20 : decode cX0_closesBlock 20 = .ok (.iconst (-1), 1) := by decide +kernel
theorem dX0_closesBlock_21 : decode cX0_closesBlock 21 = .ok (.if_icmp .eq 33, 3) := by decide +kernel
theorem dX0_closesBlock_24 : decode cX0_closesBlock 24 = .ok (.aload_n 0, 1) := by decide +kernel
theorem dX0_closesBlock_25 : decode cX0_closesBlock 25 = .ok (.getfield 34, 3) := by decide +kernel
theorem dX0_closesBlock_28 : decode cX0_closesBlock 28 = .ok (.getfield 170, 3) := by decide +kernel
theorem dX0_closesBlock_31 : decode cX0_closesBlock 31 = .ok (.iload_n 1, 1) := by decide +kernel
theorem dX0_closesBlock_32 : decode cX0_closesBlock 32 = .ok (.caload, 1) := by decide +kernel
theorem dX0_closesBlock_33 : decode cX0_closesBlock 33 = .ok (.bipush 63, 2) := by decide +kernel
theorem dX0_closesBlock_35 : decode cX0_closesBlock 35 = .ok (.if_icmp .ne 19, 3) := by decide +kernel
theorem dX0_closesBlock_38 : decode cX0_closesBlock 38 = .ok (.aload_n 0, 1) := by decide +kernel
theorem dX0_closesBlock_39 : decode cX0_closesBlock 39 = .ok (.getfield 19, 3) := by decide +kernel
theorem dX0_closesBlock_42 : decode cX0_closesBlock 42 = .ok (.aload_n 0, 1) := by decide +kernel
theorem dX0_closesBlock_43 : decode cX0_closesBlock 43 = .ok (.getfield 83, 3) := by decide +kernel
theorem dX0_closesBlock_46 : decode cX0_closesBlock 46 = .ok (.baload, 1) := by decide +kernel
theorem dX0_closesBlock_47 : decode cX0_closesBlock 47 = .ok (.ifCond .ne 7, 3) := by decide +kernel
theorem dX0_closesBlock_50 : decode cX0_closesBlock 50 = .ok (.iconst 1, 1) := by decide +kernel
theorem dX0_closesBlock_51 : decode cX0_closesBlock 51 = .ok (.goto 4, 3) := by decide +kernel
theorem dX0_closesBlock_54 : decode cX0_closesBlock 54 = .ok (.iconst 0, 1) := by decide +kernel
theorem dX0_closesBlock_55 : decode cX0_closesBlock 55 = .ok (.istore_n 2, 1) := by decide +kernel
theorem dX0_closesBlock_56 : decode cX0_closesBlock 56 = .ok (.aload_n 0, 1) := by decide +kernel
theorem dX0_closesBlock_57 : decode cX0_closesBlock 57 = .ok (.dup, 1) := by decide +kernel
theorem dX0_closesBlock_58 : decode cX0_closesBlock 58 = .ok (.getfield 83, 3) := by decide +kernel
theorem dX0_closesBlock_61 : decode cX0_closesBlock 61 = .ok (.iconst 1, 1) := by decide +kernel
theorem dX0_closesBlock_62 : decode cX0_closesBlock 62 = .ok (.isub, 1) := by decide +kernel
theorem dX0_closesBlock_63 : decode cX0_closesBlock 63 = .ok (.putfield 83, 3) := by decide +kernel
theorem dX0_closesBlock_66 : decode cX0_closesBlock 66 = .ok (.iload_n 1, 1) := by decide +kernel
theorem dX0_closesBlock_67 : decode cX0_closesBlock 67 = .ok (.iconst (-1), 1) := by decide +kernel
theorem dX0_closesBlock_68 : decode cX0_closesBlock 68 = .ok (.if_icmp .ne 7, 3) := by decide +kernel
theorem dX0_closesBlock_71 : decode cX0_closesBlock 71 = .ok (.aload_n 0, 1) := by decide +kernel
theorem dX0_closesBlock_72 : decode cX0_closesBlock 72 = .ok (.invokevirtual 174, 3) := by decide +kernel
theorem dX0_closesBlock_75 : decode cX0_closesBlock 75 = .ok (.aload_n 0, 1) := by decide +kernel
theorem dX0_closesBlock_76 : decode cX0_closesBlock 76 = .ok (.iload_n 2, 1) := by decide +kernel
theorem dX0_closesBlock_77 : decode cX0_closesBlock 77 = .ok (.ifCond .eq 7, 3) := by decide +kernel
theorem dX0_closesBlock_80 : decode cX0_closesBlock 80 = .ok (.iconst 1, 1) := by decide +kernel
theorem dX0_closesBlock_81 : decode cX0_closesBlock 81 = .ok (.goto 4, 3) := by decide +kernel
theorem dX0_closesBlock_84 : decode cX0_closesBlock 84 = .ok (.iconst 0, 1) := by decide +kernel
theorem dX0_closesBlock_85 : decode cX0_closesBlock 85 = .ok (.invokevirtual 95, 3) := by decide +kernel
theorem dX0_closesBlock_88 : decode cX0_closesBlock 88 = .ok (.ireturn, 1) := by decide +kernel
set_option maxRecDepth 20000 in
set_option maxHeartbeats 4000000 in
theorem tb_X0_closesBlock_b75 {p : Program} {l : Launch} {e : Env} {s : State} {m : MethodId} {args : Array Value} {below : List Frame} {meth : Method} {c : Code} {G : GG} {Φ : Int32 → S9 → Prop}  (hE : Ev 40 G p s m args c cX0_closesBlock RX0) (hml : c.maxLocals = 3) (hr : meth.sig.returnType = (some .boolean)) (hlk : meth.locks = false)  {a2 : Int32} {σ : S9} {H : Heap} {locs : List Loc} {ls : Array Slot} (hq : wp_X0_closesBlock_b75  Φ a2 σ) (hw : Pic cwl 40 G σ s.heap H locs) (hl : lv_has ls 3 [(0, .ref (gAd G 4)), (2, .int a2)]) : W p l e rm_X0_closesBlock s m args below meth c H locs 0 0 (QI cwl 40 G below args s Φ) (F0 m 75 ls []) := by
  unfold wp_X0_closesBlock_b75 at hq
  refine lv_aload_n hE.1 hE.2.1 dX0_closesBlock_75 rfl (lv_at hl 0 rfl) ?_
  refine lv_iload_n hE.1 hE.2.1 dX0_closesBlock_76 rfl (lv_at hl 1 rfl) ?_
  refine lv_if_eq (tgt := 84) hE.1 hE.2.1 dX0_closesBlock_77 (by decide) (fun c1 => ?_) (fun c1 => ?_)
  · have hq := hq.1 c1
    refine lv_iconst (v := (0 : Int32)) hE.1 hE.2.1 dX0_closesBlock_84 (by decide) ?_
    refine clVi (rest := []) (As := [.int (0 : Int32)]) hE hml hl.1 hw (c_X0_awaits hE.2.2.2.2.2 l _ _ _ hq) cu221 cu222 cu223 cu224 cu138 rfl (k := 1) (by decide +kernel) (by decide) (ci := 0) rfl (q0 := 4) rfl rfl rfl (Nat.le_of_ble_eq_true rfl) dX0_closesBlock_85 (by decide) (fun r2 σ1 hq H locs hw => ?_)
    exact rtZ hE hr hlk hq.1 hw hq.2 dX0_closesBlock_88
  · have hq := hq.2 c1
    refine lv_iconst (v := (1 : Int32)) hE.1 hE.2.1 dX0_closesBlock_80 (by decide) ?_
    refine lv_goto (tgt := 85) hE.1 hE.2.1 dX0_closesBlock_81 (by decide) ?_
    refine clVi (rest := []) (As := [.int (1 : Int32)]) hE hml hl.1 hw (c_X0_awaits hE.2.2.2.2.2 l _ _ _ hq) cu221 cu222 cu223 cu224 cu138 rfl (k := 1) (by decide +kernel) (by decide) (ci := 0) rfl (q0 := 4) rfl rfl rfl (Nat.le_of_ble_eq_true rfl) dX0_closesBlock_85 (by decide) (fun r3 σ2 hq H locs hw => ?_)
    exact rtZ hE hr hlk hq.1 hw hq.2 dX0_closesBlock_88
set_option maxRecDepth 20000 in
set_option maxHeartbeats 4000000 in
theorem tb_X0_closesBlock_b55 {p : Program} {l : Launch} {e : Env} {s : State} {m : MethodId} {args : Array Value} {below : List Frame} {meth : Method} {c : Code} {G : GG} {Φ : Int32 → S9 → Prop}  (hE : Ev 40 G p s m args c cX0_closesBlock RX0) (hml : c.maxLocals = 3) (hr : meth.sig.returnType = (some .boolean)) (hlk : meth.locks = false)  {a1 : Int32} {t0 : Int32} {σ : S9} {H : Heap} {locs : List Loc} {ls : Array Slot} (hq : wp_X0_closesBlock_b55  Φ a1 t0 σ) (hw : Pic cwl 40 G σ s.heap H locs) (hl : lv_has ls 3 [(0, .ref (gAd G 4)), (1, .int a1)]) : W p l e rm_X0_closesBlock s m args below meth c H locs 0 0 (QI cwl 40 G below args s Φ) (F0 m 55 ls [.int t0]) := by
  unfold wp_X0_closesBlock_b55 at hq
  refine lv_istore_n (lv' := [(2, .int t0), (0, .ref (gAd G 4)), (1, .int a1)]) hE.1 hE.2.1 dX0_closesBlock_55 rfl hl (by decide) rfl (fun ls hl => ?_)
  refine lv_aload_n hE.1 hE.2.1 dX0_closesBlock_56 rfl (lv_at hl 1 rfl) ?_
  refine lv_dup hE.1 hE.2.1 dX0_closesBlock_57 rfl ?_
  refine cgf_X0_83 hE hw dX0_closesBlock_58 ?_
  refine lv_iconst (v := (1 : Int32)) hE.1 hE.2.1 dX0_closesBlock_61 (by decide) ?_
  refine lv_isub hE.1 hE.2.1 dX0_closesBlock_62 ?_
  refine cpf_X0_83 hE hw dX0_closesBlock_63 (fun σ1 eσ1 H locs hw => ?_)
  have hq := hq σ1 eσ1
  refine lv_iload_n hE.1 hE.2.1 dX0_closesBlock_66 rfl (lv_at hl 2 rfl) ?_
  refine lv_iconst (v := (-1 : Int32)) hE.1 hE.2.1 dX0_closesBlock_67 (by decide) ?_
  refine lv_icmp_ne (tgt := 75) hE.1 hE.2.1 dX0_closesBlock_68 (by decide) (fun c1 => ?_) (fun c1 => ?_)
  · have hq := hq.2 c1
    exact tb_X0_closesBlock_b75 hE hml hr hlk  hq hw (lv_sub hl [1, 0] rfl)
  · have hq := hq.1 c1
    refine lv_aload_n hE.1 hE.2.1 dX0_closesBlock_71 rfl (lv_at hl 1 rfl) ?_
    refine clVv (rest := []) (As := []) hE hml hl.1 hw (c_X0_closeDefinition hE.2.2.2.2.2 l _ _ hq) cu225 cu226 cu227 cu228 cu138 rfl (k := 0) (by decide +kernel) (by decide) (ci := 0) rfl (q0 := 4) rfl rfl rfl (Nat.le_of_ble_eq_true rfl) dX0_closesBlock_72 (by decide) (fun σ2 hq H locs hw => ?_)
    exact tb_X0_closesBlock_b75 hE hml hr hlk  hq hw (lv_sub hl [1, 0] rfl)
set_option maxRecDepth 20000 in
set_option maxHeartbeats 4000000 in
theorem tb_X0_closesBlock_b54 {p : Program} {l : Launch} {e : Env} {s : State} {m : MethodId} {args : Array Value} {below : List Frame} {meth : Method} {c : Code} {G : GG} {Φ : Int32 → S9 → Prop}  (hE : Ev 40 G p s m args c cX0_closesBlock RX0) (hml : c.maxLocals = 3) (hr : meth.sig.returnType = (some .boolean)) (hlk : meth.locks = false)  {a1 : Int32} {σ : S9} {H : Heap} {locs : List Loc} {ls : Array Slot} (hq : wp_X0_closesBlock_b54  Φ a1 σ) (hw : Pic cwl 40 G σ s.heap H locs) (hl : lv_has ls 3 [(0, .ref (gAd G 4)), (1, .int a1)]) : W p l e rm_X0_closesBlock s m args below meth c H locs 0 0 (QI cwl 40 G below args s Φ) (F0 m 54 ls []) := by
  unfold wp_X0_closesBlock_b54 at hq
  refine lv_iconst (v := (0 : Int32)) hE.1 hE.2.1 dX0_closesBlock_54 (by decide) ?_
  exact tb_X0_closesBlock_b55 hE hml hr hlk  hq hw (lv_sub hl [0, 1] rfl)
set_option maxRecDepth 20000 in
set_option maxHeartbeats 4000000 in
theorem c_X0_closesBlock {G : GG} (hJ : gJ 40 G) (l : Launch)  (σ : S9) (Φ : Int32 → S9 → Prop) (hq : wp_X0_closesBlock  σ Φ) : CI cwl 40 G l yX0_closesBlock cX0_closesBlock 3 (some .boolean) rm_X0_closesBlock [.ref (gAd G 4)] σ Φ := by
  refine CI.intro (by decide) (Nat.le_of_ble_eq_true rfl) hJ ?_
  intro p e s m args below meth c ls hE hml hr hlk hw hl
  have hl : lv_has ls 3 [(0, .ref (gAd G 4))] := hl
  unfold wp_X0_closesBlock at hq
  refine lv_aload_n hE.1 hE.2.1 dX0_closesBlock_0 rfl (lv_at hl 0 rfl) ?_
  refine cgf_X0_83 hE hw dX0_closesBlock_1 ?_
  refine lv_if_ne (tgt := 9) hE.1 hE.2.1 dX0_closesBlock_4 (by decide) (fun c1 => ?_) (fun c1 => ?_)
  · have hq := hq.2 c1
    refine lv_aload_n hE.1 hE.2.1 dX0_closesBlock_9 rfl (lv_at hl 0 rfl) ?_
    refine cgf_X0_15 hE hw dX0_closesBlock_10 ?_
    refine lv_aload_n hE.1 hE.2.1 dX0_closesBlock_13 rfl (lv_at hl 0 rfl) ?_
    refine cgf_X0_83 hE hw dX0_closesBlock_14 ?_
    obtain ⟨hi2, hq⟩ := hq
    refine cal_26 hE hw hi2 dX0_closesBlock_17 ?_
    refine lv_topi (fun x3 ex3 => ?_)
    have hq := hq x3 ex3
    refine lv_istore_n (lv' := [(1, .int x3), (0, .ref (gAd G 4))]) hE.1 hE.2.1 dX0_closesBlock_18 rfl hl (by decide) rfl (fun ls hl => ?_)
    refine lv_iload_n hE.1 hE.2.1 dX0_closesBlock_19 rfl (lv_at hl 0 rfl) ?_
    refine lv_iconst (v := (-1 : Int32)) hE.1 hE.2.1 dX0_closesBlock_20 (by decide) ?_
    refine lv_icmp_eq (tgt := 54) hE.1 hE.2.1 dX0_closesBlock_21 (by decide) (fun c4 => ?_) (fun c4 => ?_)
    · have hq := hq.1 c4
      exact tb_X0_closesBlock_b54 hE hml hr hlk  hq hw (lv_sub hl [1, 0] rfl)
    · have hq := hq.2 c4
      refine lv_aload_n hE.1 hE.2.1 dX0_closesBlock_24 rfl (lv_at hl 1 rfl) ?_
      refine cgf_X0_34 hE hw dX0_closesBlock_25 ?_
      refine cgf_X0_170 hE hw dX0_closesBlock_28 ?_
      refine lv_iload_n hE.1 hE.2.1 dX0_closesBlock_31 rfl (lv_at hl 0 rfl) ?_
      obtain ⟨hi5, hq⟩ := hq
      refine cal_14 hE hw hi5 dX0_closesBlock_32 ?_
      refine lv_bipush (v := (63 : Int32)) hE.1 hE.2.1 dX0_closesBlock_33 (by decide) ?_
      refine lv_icmp_ne (tgt := 54) hE.1 hE.2.1 dX0_closesBlock_35 (by decide) (fun c6 => ?_) (fun c6 => ?_)
      · have hq := hq.2 c6
        exact tb_X0_closesBlock_b54 hE hml hr hlk  hq hw (lv_sub hl [1, 0] rfl)
      · have hq := hq.1 c6
        refine lv_aload_n hE.1 hE.2.1 dX0_closesBlock_38 rfl (lv_at hl 1 rfl) ?_
        refine cgf_X0_19 hE hw dX0_closesBlock_39 ?_
        refine lv_aload_n hE.1 hE.2.1 dX0_closesBlock_42 rfl (lv_at hl 1 rfl) ?_
        refine cgf_X0_83 hE hw dX0_closesBlock_43 ?_
        obtain ⟨hi7, hq⟩ := hq
        refine cal_27 hE hw hi7 dX0_closesBlock_46 ?_
        refine lv_if_ne (tgt := 54) hE.1 hE.2.1 dX0_closesBlock_47 (by decide) (fun c8 => ?_) (fun c8 => ?_)
        · have hq := hq.2 c8
          exact tb_X0_closesBlock_b54 hE hml hr hlk  hq hw (lv_sub hl [1, 0] rfl)
        · have hq := hq.1 c8
          refine lv_iconst (v := (1 : Int32)) hE.1 hE.2.1 dX0_closesBlock_50 (by decide) ?_
          refine lv_goto (tgt := 55) hE.1 hE.2.1 dX0_closesBlock_51 (by decide) ?_
          exact tb_X0_closesBlock_b55 hE hml hr hlk  hq hw (lv_sub hl [1, 0] rfl)
  · have hq := hq.1 c1
    refine lv_iconst (v := (0 : Int32)) hE.1 hE.2.1 dX0_closesBlock_7 (by decide) ?_
    exact rtZ hE hr hlk rfl hw hq dX0_closesBlock_8
/-! QueueBench$Words.braceFollows()Z -/
abbrev rm_X9_braceFollows : Room := { frames := 2, cells := 0, slots := 0, locals := 43 }
def wp_X9_braceFollows  (σ : S9) (Φ : Int32 → S9 → Prop) : Prop := wp_X8_wordFrom (σ.1 11) σ (fun r1 σ1 => wp_X8_signAt r1 σ1 (fun r2 σ2 => (r2 = (123 : Int32) → Φ (1 : Int32) σ2) ∧ (¬ r2 = (123 : Int32) → Φ (0 : Int32) σ2)))
theorem dX9_braceFollows_0 : decode cX9_braceFollows 0 = .ok (.aload_n 0, 1) := by decide +kernel
theorem dX9_braceFollows_1 : decode cX9_braceFollows 1 = .ok (.getfield 9, 3) := by decide +kernel
theorem dX9_braceFollows_4 : decode cX9_braceFollows 4 = .ok (.aload_n 0, 1) := by decide +kernel
theorem dX9_braceFollows_5 : decode cX9_braceFollows 5 = .ok (.getfield 9, 3) := by decide +kernel
theorem dX9_braceFollows_8 : decode cX9_braceFollows 8 = .ok (.aload_n 0, 1) := by decide +kernel
theorem dX9_braceFollows_9 : decode cX9_braceFollows 9 = .ok (.getfield 15, 3) := by decide +kernel
theorem dX9_braceFollows_12 : decode cX9_braceFollows 12 = .ok (.invokevirtual 22, 3) := by decide +kernel
theorem dX9_braceFollows_15 : decode cX9_braceFollows 15 = .ok (.invokevirtual 31, 3) := by decide +kernel
theorem dX9_braceFollows_18 : decode cX9_braceFollows 18 = .ok (.bipush 123, 2) := by decide +kernel
theorem dX9_braceFollows_20 : decode cX9_braceFollows 20 = .ok (.if_icmp .ne 7, 3) := by decide +kernel
theorem dX9_braceFollows_23 : decode cX9_braceFollows 23 = .ok (.iconst 1, 1) := by decide +kernel
theorem dX9_braceFollows_24 : decode cX9_braceFollows 24 = .ok (.goto 4, 3) := by decide +kernel
theorem dX9_braceFollows_27 : decode cX9_braceFollows 27 = .ok (.iconst 0, 1) := by decide +kernel
theorem dX9_braceFollows_28 : decode cX9_braceFollows 28 = .ok (.ireturn, 1) := by decide +kernel
set_option maxRecDepth 20000 in
set_option maxHeartbeats 4000000 in
theorem c_X9_braceFollows {G : GG} (hJ : gJ 40 G) (l : Launch)  (σ : S9) (Φ : Int32 → S9 → Prop) (hq : wp_X9_braceFollows  σ Φ) : CI cwl 40 G l yX9_braceFollows cX9_braceFollows 1 (some .boolean) rm_X9_braceFollows [.ref (gAd G 5)] σ Φ := by
  refine CI.intro (by decide) (Nat.le_of_ble_eq_true rfl) hJ ?_
  intro p e s m args below meth c ls hE hml hr hlk hw hl
  have hl : lv_has ls 1 [(0, .ref (gAd G 5))] := hl
  unfold wp_X9_braceFollows at hq
  refine lv_aload_n hE.1 hE.2.1 dX9_braceFollows_0 rfl (lv_at hl 0 rfl) ?_
  refine cgf_X9_9 hE hw dX9_braceFollows_1 ?_
  refine lv_aload_n hE.1 hE.2.1 dX9_braceFollows_4 rfl (lv_at hl 0 rfl) ?_
  refine cgf_X9_9 hE hw dX9_braceFollows_5 ?_
  refine lv_aload_n hE.1 hE.2.1 dX9_braceFollows_8 rfl (lv_at hl 0 rfl) ?_
  refine cgf_X9_15 hE hw dX9_braceFollows_9 ?_
  refine clVi (rest := [.ref (gAd G 1)]) (As := [.int (σ.1 11)]) hE hml hl.1 hw (c_X8_wordFrom hE.2.2.2.2.2 l _ _ _ hq) cu153 cu154 cu155 cu156 cu146 rfl (k := 1) (by decide +kernel) (by decide) (ci := 8) rfl (q0 := 1) rfl rfl rfl (Nat.le_of_ble_eq_true rfl) dX9_braceFollows_12 (by decide) (fun r1 σ1 hq H locs hw => ?_)
  refine clVi (rest := []) (As := [.int r1]) hE hml hl.1 hw (c_X8_signAt hE.2.2.2.2.2 l _ _ _ hq) cu145 cu158 cu148 cu149 cu146 rfl (k := 1) (by decide +kernel) (by decide) (ci := 8) rfl (q0 := 1) rfl rfl rfl (Nat.le_of_ble_eq_true rfl) dX9_braceFollows_15 (by decide) (fun r2 σ2 hq H locs hw => ?_)
  refine lv_bipush (v := (123 : Int32)) hE.1 hE.2.1 dX9_braceFollows_18 (by decide) ?_
  refine lv_icmp_ne (tgt := 27) hE.1 hE.2.1 dX9_braceFollows_20 (by decide) (fun c3 => ?_) (fun c3 => ?_)
  · have hq := hq.2 c3
    refine lv_iconst (v := (0 : Int32)) hE.1 hE.2.1 dX9_braceFollows_27 (by decide) ?_
    exact rtZ hE hr hlk rfl hw hq dX9_braceFollows_28
  · have hq := hq.1 c3
    refine lv_iconst (v := (1 : Int32)) hE.1 hE.2.1 dX9_braceFollows_23 (by decide) ?_
    refine lv_goto (tgt := 28) hE.1 hE.2.1 dX9_braceFollows_24 (by decide) ?_
    exact rtZ hE hr hlk rfl hw hq dX9_braceFollows_28
/-! QueueBench$Compiler.takesProcedure(I)Z -/
abbrev rm_X0_takesProcedure : Room := { frames := 3, cells := 0, slots := 0, locals := 68 }
def wp_X0_takesProcedure_b46  (Φ : Int32 → S9 → Prop) (a1 : Int32) (σ : S9) : Prop := vp_in a1 26 ∧ ((σ.2.1 13 (a1).toNatClampNeg) = 0 → Φ (0 : Int32) σ) ∧ (¬ (σ.2.1 13 (a1).toNatClampNeg) = 0 → wp_X0_addsStep (65 : Int32) a1 σ (fun r3 σ1 => (r3 = 0 → Φ (0 : Int32) σ1) ∧ (¬ r3 = 0 → wp_X0_awaits (5 : Int32) σ1 (fun r5 σ2 => (r5 = 0 → Φ (0 : Int32) σ2) ∧ (¬ r5 = 0 → Φ (1 : Int32) σ2)))))
def wp_X0_takesProcedure (a1 : Int32) (σ : S9) (Φ : Int32 → S9 → Prop) : Prop := ((σ.1 6) = 0 → wp_X9_braceFollows σ (fun r2 σ1 => (r2 = 0 → wp_X0_takesProcedure_b46  Φ a1 σ1) ∧ (¬ r2 = 0 → ∀ σ2 : S9, σ2 = sF σ1 8 a1 → vp_in a1 26 ∧ ((σ2.2.1 13 (a1).toNatClampNeg) = 0 → wp_X0_awaits (6 : Int32) σ2 (fun r6 σ3 => (r6 = 0 → Φ (0 : Int32) σ3) ∧ (¬ r6 = 0 → Φ (1 : Int32) σ3))) ∧ (¬ (σ2.2.1 13 (a1).toNatClampNeg) = 0 → Φ (0 : Int32) σ2)))) ∧ (¬ (σ.1 6) = 0 → wp_X0_takesProcedure_b46  Φ a1 σ)
theorem dX0_takesProcedure_0 : decode cX0_takesProcedure 0 = .ok (.aload_n 0, 1) := by decide +kernel
theorem dX0_takesProcedure_1 : decode cX0_takesProcedure 1 = .ok (.getfield 83, 3) := by decide +kernel
theorem dX0_takesProcedure_4 : decode cX0_takesProcedure 4 = .ok (.ifCond .ne 42, 3) := by decide +kernel
theorem dX0_takesProcedure_7 : decode cX0_takesProcedure 7 = .ok (.aload_n 0, 1) := by decide +kernel
theorem dX0_takesProcedure_8 : decode cX0_takesProcedure 8 = .ok (.getfield 30, 3) := by decide +kernel
theorem dX0_takesProcedure_11 : decode cX0_takesProcedure 11 = .ok (.invokevirtual 133, 3) := by decide +kernel
theorem dX0_takesProcedure_14 : decode cX0_takesProcedure 14 = .ok (.ifCond .eq 32, 3) := by decide +kernel
theorem dX0_takesProcedure_17 : decode cX0_takesProcedure 17 = .ok (.aload_n 0, 1) := by decide +kernel
theorem dX0_takesProcedure_18 : decode cX0_takesProcedure 18 = .ok (.iload_n 1, 1) := by decide +kernel
theorem dX0_takesProcedure_19 : decode cX0_takesProcedure 19 = .ok (.putfield 89, 3) := by decide +kernel
theorem dX0_takesProcedure_22 : decode cX0_takesProcedure 22 = .ok (.aload_n 0, 1) := by decide +kernel
theorem dX0_takesProcedure_23 : decode cX0_takesProcedure 23 = .ok (.getfield 9, 3) := by decide +kernel
theorem dX0_takesProcedure_26 : decode cX0_takesProcedure 26 = .ok (.iload_n 1, 1) := by decide +kernel
theorem dX0_takesProcedure_27 : decode cX0_takesProcedure 27 = .ok (.baload, 1) := by decide +kernel
theorem dX0_takesProcedure_28 : decode cX0_takesProcedure 28 = .ok (.ifCond .ne 16, 3) := by decide +kernel
theorem dX0_takesProcedure_31 : decode cX0_takesProcedure 31 = .ok (.aload_n 0, 1) := by decide +kernel
theorem dX0_takesProcedure_32 : decode cX0_takesProcedure 32 = .ok (.bipush 6, 2) := by decide +kernel
theorem dX0_takesProcedure_34 : decode cX0_takesProcedure 34 = .ok (.invokevirtual 95, 3) := by decide +kernel
theorem dX0_takesProcedure_37 : decode cX0_takesProcedure 37 = .ok (.ifCond .eq 7, 3) := by decide +kernel
theorem dX0_takesProcedure_40 : decode cX0_takesProcedure 40 = .ok (.iconst 1, 1) := by decide +kernel
theorem dX0_takesProcedure_41 : decode cX0_takesProcedure 41 = .ok (.goto 4, 3) := by decide +kernel
theorem dX0_takesProcedure_44 : decode cX0_takesProcedure 44 = .ok (.iconst 0, 1) := by decide +kernel
theorem dX0_takesProcedure_45 : decode cX0_takesProcedure 45 = .ok (.ireturn, 1) := by decide +kernel
theorem dX0_takesProcedure_46 : decode cX0_takesProcedure 46 = .ok (.aload_n 0, 1) := by decide +kernel
theorem dX0_takesProcedure_47 : decode cX0_takesProcedure 47 = .ok (.getfield 9, 3) := by decide +kernel
theorem dX0_takesProcedure_50 : decode cX0_takesProcedure 50 = .ok (.iload_n 1, 1) := by decide +kernel
theorem dX0_takesProcedure_51 : decode cX0_takesProcedure 51 = .ok (.baload, 1) := by decide +kernel
theorem dX0_takesProcedure_52 : decode cX0_takesProcedure 52 = .ok (.ifCond .eq 25, 3) := by decide +kernel
theorem dX0_takesProcedure_55 : decode cX0_takesProcedure 55 = .ok (.aload_n 0, 1) := by decide +kernel
theorem dX0_takesProcedure_56 : decode cX0_takesProcedure 56 = .ok (.bipush 65, 2) := by decide +kernel
theorem dX0_takesProcedure_58 : decode cX0_takesProcedure 58 = .ok (.iload_n 1, 1) := by decide +kernel
theorem dX0_takesProcedure_59 : decode cX0_takesProcedure 59 = .ok (.invokevirtual 126, 3) := by decide +kernel
theorem dX0_takesProcedure_62 : decode cX0_takesProcedure 62 = .ok (.ifCond .eq 15, 3) := by decide +kernel
theorem dX0_takesProcedure_65 : decode cX0_takesProcedure 65 = .ok (.aload_n 0, 1) := by decide +kernel
theorem dX0_takesProcedure_66 : decode cX0_takesProcedure 66 = .ok (.iconst 5, 1) := by decide +kernel
theorem dX0_takesProcedure_67 : decode cX0_takesProcedure 67 = .ok (.invokevirtual 95, 3) := by decide +kernel
theorem dX0_takesProcedure_70 : decode cX0_takesProcedure 70 = .ok (.ifCond .eq 7, 3) := by decide +kernel
theorem dX0_takesProcedure_73 : decode cX0_takesProcedure 73 = .ok (.iconst 1, 1) := by decide +kernel
theorem dX0_takesProcedure_74 : decode cX0_takesProcedure 74 = .ok (.goto 4, 3) := by decide +kernel
theorem dX0_takesProcedure_77 : decode cX0_takesProcedure 77 = .ok (.iconst 0, 1) := by decide +kernel
theorem dX0_takesProcedure_78 : decode cX0_takesProcedure 78 = .ok (.ireturn, 1) := by decide +kernel
set_option maxRecDepth 20000 in
set_option maxHeartbeats 4000000 in
theorem tb_X0_takesProcedure_b46 {p : Program} {l : Launch} {e : Env} {s : State} {m : MethodId} {args : Array Value} {below : List Frame} {meth : Method} {c : Code} {G : GG} {Φ : Int32 → S9 → Prop}  (hE : Ev 40 G p s m args c cX0_takesProcedure RX0) (hml : c.maxLocals = 2) (hr : meth.sig.returnType = (some .boolean)) (hlk : meth.locks = false)  {a1 : Int32} {σ : S9} {H : Heap} {locs : List Loc} {ls : Array Slot} (hq : wp_X0_takesProcedure_b46  Φ a1 σ) (hw : Pic cwl 40 G σ s.heap H locs) (hl : lv_has ls 2 [(0, .ref (gAd G 4)), (1, .int a1)]) : W p l e rm_X0_takesProcedure s m args below meth c H locs 0 0 (QI cwl 40 G below args s Φ) (F0 m 46 ls []) := by
  unfold wp_X0_takesProcedure_b46 at hq
  refine lv_aload_n hE.1 hE.2.1 dX0_takesProcedure_46 rfl (lv_at hl 0 rfl) ?_
  refine cgf_X0_9 hE hw dX0_takesProcedure_47 ?_
  refine lv_iload_n hE.1 hE.2.1 dX0_takesProcedure_50 rfl (lv_at hl 1 rfl) ?_
  obtain ⟨hi1, hq⟩ := hq
  refine cal_25 hE hw hi1 dX0_takesProcedure_51 ?_
  refine lv_if_eq (tgt := 77) hE.1 hE.2.1 dX0_takesProcedure_52 (by decide) (fun c2 => ?_) (fun c2 => ?_)
  · have hq := hq.1 c2
    refine lv_iconst (v := (0 : Int32)) hE.1 hE.2.1 dX0_takesProcedure_77 (by decide) ?_
    exact rtZ hE hr hlk rfl hw hq dX0_takesProcedure_78
  · have hq := hq.2 c2
    refine lv_aload_n hE.1 hE.2.1 dX0_takesProcedure_55 rfl (lv_at hl 0 rfl) ?_
    refine lv_bipush (v := (65 : Int32)) hE.1 hE.2.1 dX0_takesProcedure_56 (by decide) ?_
    refine lv_iload_n hE.1 hE.2.1 dX0_takesProcedure_58 rfl (lv_at hl 1 rfl) ?_
    refine clVi (rest := []) (As := [.int (65 : Int32), .int a1]) hE hml hl.1 hw (c_X0_addsStep hE.2.2.2.2.2 l _ _ _ _ hq) cu217 cu218 cu219 cu220 cu138 rfl (k := 2) (by decide +kernel) (by decide) (ci := 0) rfl (q0 := 4) rfl rfl rfl (Nat.le_of_ble_eq_true rfl) dX0_takesProcedure_59 (by decide) (fun r3 σ1 hq H locs hw => ?_)
    refine lv_if_eq (tgt := 77) hE.1 hE.2.1 dX0_takesProcedure_62 (by decide) (fun c4 => ?_) (fun c4 => ?_)
    · have hq := hq.1 c4
      refine lv_iconst (v := (0 : Int32)) hE.1 hE.2.1 dX0_takesProcedure_77 (by decide) ?_
      exact rtZ hE hr hlk rfl hw hq dX0_takesProcedure_78
    · have hq := hq.2 c4
      refine lv_aload_n hE.1 hE.2.1 dX0_takesProcedure_65 rfl (lv_at hl 0 rfl) ?_
      refine lv_iconst (v := (5 : Int32)) hE.1 hE.2.1 dX0_takesProcedure_66 (by decide) ?_
      refine clVi (rest := []) (As := [.int (5 : Int32)]) hE hml hl.1 hw (c_X0_awaits hE.2.2.2.2.2 l _ _ _ hq) cu221 cu222 cu223 cu224 cu138 rfl (k := 1) (by decide +kernel) (by decide) (ci := 0) rfl (q0 := 4) rfl rfl rfl (Nat.le_of_ble_eq_true rfl) dX0_takesProcedure_67 (by decide) (fun r5 σ2 hq H locs hw => ?_)
      refine lv_if_eq (tgt := 77) hE.1 hE.2.1 dX0_takesProcedure_70 (by decide) (fun c6 => ?_) (fun c6 => ?_)
      · have hq := hq.1 c6
        refine lv_iconst (v := (0 : Int32)) hE.1 hE.2.1 dX0_takesProcedure_77 (by decide) ?_
        exact rtZ hE hr hlk rfl hw hq dX0_takesProcedure_78
      · have hq := hq.2 c6
        refine lv_iconst (v := (1 : Int32)) hE.1 hE.2.1 dX0_takesProcedure_73 (by decide) ?_
        refine lv_goto (tgt := 78) hE.1 hE.2.1 dX0_takesProcedure_74 (by decide) ?_
        exact rtZ hE hr hlk rfl hw hq dX0_takesProcedure_78
set_option maxRecDepth 20000 in
set_option maxHeartbeats 4000000 in
theorem c_X0_takesProcedure {G : GG} (hJ : gJ 40 G) (l : Launch) (a1 : Int32) (σ : S9) (Φ : Int32 → S9 → Prop) (hq : wp_X0_takesProcedure a1 σ Φ) : CI cwl 40 G l yX0_takesProcedure cX0_takesProcedure 2 (some .boolean) rm_X0_takesProcedure [.ref (gAd G 4), .int a1] σ Φ := by
  refine CI.intro (by decide) (Nat.le_of_ble_eq_true rfl) hJ ?_
  intro p e s m args below meth c ls hE hml hr hlk hw hl
  have hl : lv_has ls 2 [(0, .ref (gAd G 4)), (1, .int a1)] := hl
  unfold wp_X0_takesProcedure at hq
  refine lv_aload_n hE.1 hE.2.1 dX0_takesProcedure_0 rfl (lv_at hl 0 rfl) ?_
  refine cgf_X0_83 hE hw dX0_takesProcedure_1 ?_
  refine lv_if_ne (tgt := 46) hE.1 hE.2.1 dX0_takesProcedure_4 (by decide) (fun c1 => ?_) (fun c1 => ?_)
  · have hq := hq.2 c1
    exact tb_X0_takesProcedure_b46 hE hml hr hlk  hq hw (lv_sub hl [0, 1] rfl)
  · have hq := hq.1 c1
    refine lv_aload_n hE.1 hE.2.1 dX0_takesProcedure_7 rfl (lv_at hl 0 rfl) ?_
    refine cgf_X0_30 hE hw dX0_takesProcedure_8 ?_
    refine clVi (rest := []) (As := []) hE hml hl.1 hw (c_X9_braceFollows hE.2.2.2.2.2 l _ _ hq) cu233 cu234 cu235 cu236 cu165 rfl (k := 0) (by decide +kernel) (by decide) (ci := 9) rfl (q0 := 5) rfl rfl rfl (Nat.le_of_ble_eq_true rfl) dX0_takesProcedure_11 (by decide) (fun r2 σ1 hq H locs hw => ?_)
    refine lv_if_eq (tgt := 46) hE.1 hE.2.1 dX0_takesProcedure_14 (by decide) (fun c3 => ?_) (fun c3 => ?_)
    · have hq := hq.1 c3
      exact tb_X0_takesProcedure_b46 hE hml hr hlk  hq hw (lv_sub hl [0, 1] rfl)
    · have hq := hq.2 c3
      refine lv_aload_n hE.1 hE.2.1 dX0_takesProcedure_17 rfl (lv_at hl 0 rfl) ?_
      refine lv_iload_n hE.1 hE.2.1 dX0_takesProcedure_18 rfl (lv_at hl 1 rfl) ?_
      refine cpf_X0_89 hE hw dX0_takesProcedure_19 (fun σ2 eσ2 H locs hw => ?_)
      have hq := hq σ2 eσ2
      refine lv_aload_n hE.1 hE.2.1 dX0_takesProcedure_22 rfl (lv_at hl 0 rfl) ?_
      refine cgf_X0_9 hE hw dX0_takesProcedure_23 ?_
      refine lv_iload_n hE.1 hE.2.1 dX0_takesProcedure_26 rfl (lv_at hl 1 rfl) ?_
      obtain ⟨hi4, hq⟩ := hq
      refine cal_25 hE hw hi4 dX0_takesProcedure_27 ?_
      refine lv_if_ne (tgt := 44) hE.1 hE.2.1 dX0_takesProcedure_28 (by decide) (fun c5 => ?_) (fun c5 => ?_)
      · have hq := hq.2 c5
        refine lv_iconst (v := (0 : Int32)) hE.1 hE.2.1 dX0_takesProcedure_44 (by decide) ?_
        exact rtZ hE hr hlk rfl hw hq dX0_takesProcedure_45
      · have hq := hq.1 c5
        refine lv_aload_n hE.1 hE.2.1 dX0_takesProcedure_31 rfl (lv_at hl 0 rfl) ?_
        refine lv_bipush (v := (6 : Int32)) hE.1 hE.2.1 dX0_takesProcedure_32 (by decide) ?_
        refine clVi (rest := []) (As := [.int (6 : Int32)]) hE hml hl.1 hw (c_X0_awaits hE.2.2.2.2.2 l _ _ _ hq) cu221 cu222 cu223 cu224 cu138 rfl (k := 1) (by decide +kernel) (by decide) (ci := 0) rfl (q0 := 4) rfl rfl rfl (Nat.le_of_ble_eq_true rfl) dX0_takesProcedure_34 (by decide) (fun r6 σ3 hq H locs hw => ?_)
        refine lv_if_eq (tgt := 44) hE.1 hE.2.1 dX0_takesProcedure_37 (by decide) (fun c7 => ?_) (fun c7 => ?_)
        · have hq := hq.1 c7
          refine lv_iconst (v := (0 : Int32)) hE.1 hE.2.1 dX0_takesProcedure_44 (by decide) ?_
          exact rtZ hE hr hlk rfl hw hq dX0_takesProcedure_45
        · have hq := hq.2 c7
          refine lv_iconst (v := (1 : Int32)) hE.1 hE.2.1 dX0_takesProcedure_40 (by decide) ?_
          refine lv_goto (tgt := 45) hE.1 hE.2.1 dX0_takesProcedure_41 (by decide) ?_
          exact rtZ hE hr hlk rfl hw hq dX0_takesProcedure_45
/-! QueueBench$Compiler.beginsStatement(C)Z -/
abbrev rm_X0_beginsStatement : Room := { frames := 4, cells := 0, slots := 0, locals := 89 }
def wp_X0_beginsStatement (a1 : Int32) (σ : S9) (Φ : Int32 → S9 → Prop) : Prop := wp_X10_isProcedure a1 σ (fun r1 σ1 => (r1 = 0 → wp_X10_isName a1 σ1 (fun r3 σ2 => (r3 = 0 → (a1 = (33 : Int32) → wp_X0_addsStep a1 (-1 : Int32) σ2 (fun r6 σ3 => (r6 = 0 → Φ (0 : Int32) σ3) ∧ (¬ r6 = 0 → wp_X0_awaits (4 : Int32) σ3 (fun r8 σ4 => (r8 = 0 → Φ (0 : Int32) σ4) ∧ (¬ r8 = 0 → Φ (1 : Int32) σ4))))) ∧ (¬ a1 = (33 : Int32) → (a1 = (42 : Int32) → wp_X0_addsStep a1 (-1 : Int32) σ2 (fun r11 σ5 => (r11 = 0 → Φ (0 : Int32) σ5) ∧ (¬ r11 = 0 → wp_X0_awaits (4 : Int32) σ5 (fun r13 σ6 => (r13 = 0 → Φ (0 : Int32) σ6) ∧ (¬ r13 = 0 → Φ (1 : Int32) σ6))))) ∧ (¬ a1 = (42 : Int32) → (a1 = (63 : Int32) → wp_X0_addsStep a1 (-1 : Int32) σ2 (fun r16 σ7 => (r16 = 0 → Φ (0 : Int32) σ7) ∧ (¬ r16 = 0 → wp_X0_awaits (4 : Int32) σ7 (fun r18 σ8 => (r18 = 0 → Φ (0 : Int32) σ8) ∧ (¬ r18 = 0 → Φ (1 : Int32) σ8))))) ∧ (¬ a1 = (63 : Int32) → (a1 = (64 : Int32) → wp_X0_addsStep a1 (-1 : Int32) σ2 (fun r21 σ9 => (r21 = 0 → Φ (0 : Int32) σ9) ∧ (¬ r21 = 0 → wp_X0_awaits (3 : Int32) σ9 (fun r23 σ10 => (r23 = 0 → Φ (0 : Int32) σ10) ∧ (¬ r23 = 0 → Φ (1 : Int32) σ10))))) ∧ (¬ a1 = (64 : Int32) → (a1 = (125 : Int32) → wp_X0_closesBlock σ2 (fun r26 σ11 => narrow .boolean (.int r26) = .int r26 ∧ Φ r26 σ11)) ∧ (¬ a1 = (125 : Int32) → Φ (0 : Int32) σ2)))))) ∧ (¬ r3 = 0 → wp_X0_addsStep (61 : Int32) (a1 - (97 : Int32)) σ2 (fun r27 σ12 => (r27 = 0 → Φ (0 : Int32) σ12) ∧ (¬ r27 = 0 → wp_X0_awaits (2 : Int32) σ12 (fun r29 σ13 => (r29 = 0 → Φ (0 : Int32) σ13) ∧ (¬ r29 = 0 → Φ (1 : Int32) σ13))))))) ∧ (¬ r1 = 0 → wp_X0_takesProcedure (a1 - (65 : Int32)) σ1 (fun r31 σ14 => narrow .boolean (.int r31) = .int r31 ∧ Φ r31 σ14)))
theorem dX0_beginsStatement_0 : decode cX0_beginsStatement 0 = .ok (.iload_n 1, 1) := by decide +kernel
theorem dX0_beginsStatement_1 : decode cX0_beginsStatement 1 = .ok (.invokestatic 117, 3) := by decide +kernel
theorem dX0_beginsStatement_4 : decode cX0_beginsStatement 4 = .ok (.ifCond .eq 12, 3) := by decide +kernel
theorem dX0_beginsStatement_7 : decode cX0_beginsStatement 7 = .ok (.aload_n 0, 1) := by decide +kernel
theorem dX0_beginsStatement_8 : decode cX0_beginsStatement 8 = .ok (.iload_n 1, 1) := by decide +kernel
theorem dX0_beginsStatement_9 : decode cX0_beginsStatement 9 = .ok (.bipush 65, 2) := by decide +kernel
theorem dX0_beginsStatement_11 : decode cX0_beginsStatement 11 = .ok (.isub, 1) := by decide +kernel
theorem dX0_beginsStatement_12 : decode cX0_beginsStatement 12 = .ok (.invokevirtual 120, 3) := by decide +kernel
theorem dX0_beginsStatement_15 : decode cX0_beginsStatement 15 = .ok (.ireturn, 1) := by decide +kernel
theorem dX0_beginsStatement_16 : decode cX0_beginsStatement 16 = .ok (.iload_n 1, 1) := by decide +kernel
theorem dX0_beginsStatement_17 : decode cX0_beginsStatement 17 = .ok (.invokestatic 123, 3) := by decide +kernel
theorem dX0_beginsStatement_20 : decode cX0_beginsStatement 20 = .ok (.ifCond .eq 30, 3) := by decide +kernel
theorem dX0_beginsStatement_23 : decode cX0_beginsStatement 23 = .ok (.aload_n 0, 1) := by decide +kernel
theorem dX0_beginsStatement_24 : decode cX0_beginsStatement 24 = .ok (.bipush 61, 2) := by decide +kernel
theorem dX0_beginsStatement_26 : decode cX0_beginsStatement 26 = .ok (.iload_n 1, 1) := by decide +kernel
theorem dX0_beginsStatement_27 : decode cX0_beginsStatement 27 = .ok (.bipush 97, 2) := by decide +kernel
theorem dX0_beginsStatement_29 : decode cX0_beginsStatement 29 = .ok (.isub, 1) := by decide +kernel
theorem dX0_beginsStatement_30 : decode cX0_beginsStatement 30 = .ok (.invokevirtual 126, 3) := by decide +kernel
theorem dX0_beginsStatement_33 : decode cX0_beginsStatement 33 = .ok (.ifCond .eq 15, 3) := by decide +kernel
theorem dX0_beginsStatement_36 : decode cX0_beginsStatement 36 = .ok (.aload_n 0, 1) := by decide +kernel
theorem dX0_beginsStatement_37 : decode cX0_beginsStatement 37 = .ok (.iconst 2, 1) := by decide +kernel
theorem dX0_beginsStatement_38 : decode cX0_beginsStatement 38 = .ok (.invokevirtual 95, 3) := by decide +kernel
theorem dX0_beginsStatement_41 : decode cX0_beginsStatement 41 = .ok (.ifCond .eq 7, 3) := by decide +kernel
theorem dX0_beginsStatement_44 : decode cX0_beginsStatement 44 = .ok (.iconst 1, 1) := by decide +kernel
theorem dX0_beginsStatement_45 : decode cX0_beginsStatement 45 = .ok (.goto 4, 3) := by decide +kernel
theorem dX0_beginsStatement_48 : decode cX0_beginsStatement 48 = .ok (.iconst 0, 1) := by decide +kernel
theorem dX0_beginsStatement_49 : decode cX0_beginsStatement 49 = .ok (.ireturn, 1) := by decide +kernel
theorem dX0_beginsStatement_50 : decode cX0_beginsStatement 50 = .ok (.iload_n 1, 1) := by decide +kernel
theorem dX0_beginsStatement_51 : decode cX0_beginsStatement 51 = .ok (.lookupswitch 100 #[(33, 72), (42, 72), (63, 72), (64, 49), (125, 95)], 49) := by decide +kernel
theorem dX0_beginsStatement_100 : decode cX0_beginsStatement 100 = .ok (.aload_n 0, 1) := by decide +kernel
theorem dX0_beginsStatement_101 : decode cX0_beginsStatement 101 = .ok (.iload_n 1, 1) := by decide +kernel
theorem dX0_beginsStatement_102 : decode cX0_beginsStatement 102 = .ok (.iconst (-1), 1) := by decide +kernel
theorem dX0_beginsStatement_103 : decode cX0_beginsStatement 103 = .ok (.invokevirtual 126, 3) := by decide +kernel
theorem dX0_beginsStatement_106 : decode cX0_beginsStatement 106 = .ok (.ifCond .eq 15, 3) := by decide +kernel
theorem dX0_beginsStatement_109 : decode cX0_beginsStatement 109 = .ok (.aload_n 0, 1) := by decide +kernel
theorem dX0_beginsStatement_110 : decode cX0_beginsStatement 110 = .ok (.iconst 3, 1) := by decide +kernel
theorem dX0_beginsStatement_111 : decode cX0_beginsStatement 111 = .ok (.invokevirtual 95, 3) := by decide +kernel
theorem dX0_beginsStatement_114 : decode cX0_beginsStatement 114 = .ok (.ifCond .eq 7, 3) := by decide +kernel
theorem dX0_beginsStatement_117 : decode cX0_beginsStatement 117 = .ok (.iconst 1, 1) := by decide +kernel
theorem dX0_beginsStatement_118 : decode cX0_beginsStatement 118 = .ok (.goto 4, 3) := by decide +kernel
theorem dX0_beginsStatement_121 : decode cX0_beginsStatement 121 = .ok (.iconst 0, 1) := by decide +kernel
theorem dX0_beginsStatement_122 : decode cX0_beginsStatement 122 = .ok (.ireturn, 1) := by decide +kernel
theorem dX0_beginsStatement_123 : decode cX0_beginsStatement 123 = .ok (.aload_n 0, 1) := by decide +kernel
theorem dX0_beginsStatement_124 : decode cX0_beginsStatement 124 = .ok (.iload_n 1, 1) := by decide +kernel
theorem dX0_beginsStatement_125 : decode cX0_beginsStatement 125 = .ok (.iconst (-1), 1) := by decide +kernel
theorem dX0_beginsStatement_126 : decode cX0_beginsStatement 126 = .ok (.invokevirtual 126, 3) := by decide +kernel
theorem dX0_beginsStatement_129 : decode cX0_beginsStatement 129 = .ok (.ifCond .eq 15, 3) := by decide +kernel
theorem dX0_beginsStatement_132 : decode cX0_beginsStatement 132 = .ok (.aload_n 0, 1) := by decide +kernel
theorem dX0_beginsStatement_133 : decode cX0_beginsStatement 133 = .ok (.iconst 4, 1) := by decide +kernel
theorem dX0_beginsStatement_134 : decode cX0_beginsStatement 134 = .ok (.invokevirtual 95, 3) := by decide +kernel
theorem dX0_beginsStatement_137 : decode cX0_beginsStatement 137 = .ok (.ifCond .eq 7, 3) := by decide +kernel
theorem dX0_beginsStatement_140 : decode cX0_beginsStatement 140 = .ok (.iconst 1, 1) := by decide +kernel
theorem dX0_beginsStatement_141 : decode cX0_beginsStatement 141 = .ok (.goto 4, 3) := by decide +kernel
theorem dX0_beginsStatement_144 : decode cX0_beginsStatement 144 = .ok (.iconst 0, 1) := by decide +kernel
theorem dX0_beginsStatement_145 : decode cX0_beginsStatement 145 = .ok (.ireturn, 1) := by decide +kernel
theorem dX0_beginsStatement_146 : decode cX0_beginsStatement 146 = .ok (.aload_n 0, 1) := by decide +kernel
theorem dX0_beginsStatement_147 : decode cX0_beginsStatement 147 = .ok (.invokevirtual 130, 3) := by decide +kernel
theorem dX0_beginsStatement_150 : decode cX0_beginsStatement 150 = .ok (.ireturn, 1) := by decide +kernel
theorem dX0_beginsStatement_151 : decode cX0_beginsStatement 151 = .ok (.iconst 0, 1) := by decide +kernel
theorem dX0_beginsStatement_152 : decode cX0_beginsStatement 152 = .ok (.ireturn, 1) := by decide +kernel
set_option maxRecDepth 20000 in
set_option maxHeartbeats 4000000 in
theorem c_X0_beginsStatement {G : GG} (hJ : gJ 40 G) (l : Launch) (a1 : Int32) (σ : S9) (Φ : Int32 → S9 → Prop) (hq : wp_X0_beginsStatement a1 σ Φ) : CI cwl 40 G l yX0_beginsStatement cX0_beginsStatement 2 (some .boolean) rm_X0_beginsStatement [.ref (gAd G 4), .int a1] σ Φ := by
  refine CI.intro (by decide) (Nat.le_of_ble_eq_true rfl) hJ ?_
  intro p e s m args below meth c ls hE hml hr hlk hw hl
  have hl : lv_has ls 2 [(0, .ref (gAd G 4)), (1, .int a1)] := hl
  unfold wp_X0_beginsStatement at hq
  refine lv_iload_n hE.1 hE.2.1 dX0_beginsStatement_0 rfl (lv_at hl 1 rfl) ?_
  refine clNi (rest := []) (As := [.int a1]) hE hml hl.1 hw (c_X10_isProcedure hE.2.2.2.2.2 l _ _ _ hq) cu186 (List.mem_of_getElem? (i := 47) rfl) cu187 cu47 (k := 1) (by decide +kernel) (by decide) rfl rfl (Nat.le_of_ble_eq_true rfl) dX0_beginsStatement_1 (by decide) (fun r1 σ1 hq H locs hw => ?_)
  refine lv_if_eq (tgt := 16) hE.1 hE.2.1 dX0_beginsStatement_4 (by decide) (fun c2 => ?_) (fun c2 => ?_)
  · have hq := hq.1 c2
    refine lv_iload_n hE.1 hE.2.1 dX0_beginsStatement_16 rfl (lv_at hl 1 rfl) ?_
    refine clNi (rest := []) (As := [.int a1]) hE hml hl.1 hw (c_X10_isName hE.2.2.2.2.2 l _ _ _ hq) cu188 (List.mem_of_getElem? (i := 48) rfl) cu189 cu47 (k := 1) (by decide +kernel) (by decide) rfl rfl (Nat.le_of_ble_eq_true rfl) dX0_beginsStatement_17 (by decide) (fun r3 σ2 hq H locs hw => ?_)
    refine lv_if_eq (tgt := 50) hE.1 hE.2.1 dX0_beginsStatement_20 (by decide) (fun c4 => ?_) (fun c4 => ?_)
    · have hq := hq.1 c4
      refine lv_iload_n hE.1 hE.2.1 dX0_beginsStatement_50 rfl (lv_at hl 1 rfl) ?_
      by_cases c5 : a1 = (33 : Int32)
      · have hq := hq.1 c5
        refine lv_lookup (off := 72) (tgt := 123) hE.1 hE.2.1 dX0_beginsStatement_51 (by decide) (osw_hit c5 rfl) (by decide) ?_
        refine lv_aload_n hE.1 hE.2.1 dX0_beginsStatement_123 rfl (lv_at hl 0 rfl) ?_
        refine lv_iload_n hE.1 hE.2.1 dX0_beginsStatement_124 rfl (lv_at hl 1 rfl) ?_
        refine lv_iconst (v := (-1 : Int32)) hE.1 hE.2.1 dX0_beginsStatement_125 (by decide) ?_
        refine clVi (rest := []) (As := [.int a1, .int (-1 : Int32)]) hE hml hl.1 hw (c_X0_addsStep hE.2.2.2.2.2 l _ _ _ _ hq) cu217 cu218 cu219 cu220 cu138 rfl (k := 2) (by decide +kernel) (by decide) (ci := 0) rfl (q0 := 4) rfl rfl rfl (Nat.le_of_ble_eq_true rfl) dX0_beginsStatement_126 (by decide) (fun r6 σ3 hq H locs hw => ?_)
        refine lv_if_eq (tgt := 144) hE.1 hE.2.1 dX0_beginsStatement_129 (by decide) (fun c7 => ?_) (fun c7 => ?_)
        · have hq := hq.1 c7
          refine lv_iconst (v := (0 : Int32)) hE.1 hE.2.1 dX0_beginsStatement_144 (by decide) ?_
          exact rtZ hE hr hlk rfl hw hq dX0_beginsStatement_145
        · have hq := hq.2 c7
          refine lv_aload_n hE.1 hE.2.1 dX0_beginsStatement_132 rfl (lv_at hl 0 rfl) ?_
          refine lv_iconst (v := (4 : Int32)) hE.1 hE.2.1 dX0_beginsStatement_133 (by decide) ?_
          refine clVi (rest := []) (As := [.int (4 : Int32)]) hE hml hl.1 hw (c_X0_awaits hE.2.2.2.2.2 l _ _ _ hq) cu221 cu222 cu223 cu224 cu138 rfl (k := 1) (by decide +kernel) (by decide) (ci := 0) rfl (q0 := 4) rfl rfl rfl (Nat.le_of_ble_eq_true rfl) dX0_beginsStatement_134 (by decide) (fun r8 σ4 hq H locs hw => ?_)
          refine lv_if_eq (tgt := 144) hE.1 hE.2.1 dX0_beginsStatement_137 (by decide) (fun c9 => ?_) (fun c9 => ?_)
          · have hq := hq.1 c9
            refine lv_iconst (v := (0 : Int32)) hE.1 hE.2.1 dX0_beginsStatement_144 (by decide) ?_
            exact rtZ hE hr hlk rfl hw hq dX0_beginsStatement_145
          · have hq := hq.2 c9
            refine lv_iconst (v := (1 : Int32)) hE.1 hE.2.1 dX0_beginsStatement_140 (by decide) ?_
            refine lv_goto (tgt := 145) hE.1 hE.2.1 dX0_beginsStatement_141 (by decide) ?_
            exact rtZ hE hr hlk rfl hw hq dX0_beginsStatement_145
      · have hq := hq.2 c5
        by_cases c10 : a1 = (42 : Int32)
        · have hq := hq.1 c10
          refine lv_lookup (off := 72) (tgt := 123) hE.1 hE.2.1 dX0_beginsStatement_51 (by decide) ((lv_osw c5 rfl).trans (osw_hit c10 rfl)) (by decide) ?_
          refine lv_aload_n hE.1 hE.2.1 dX0_beginsStatement_123 rfl (lv_at hl 0 rfl) ?_
          refine lv_iload_n hE.1 hE.2.1 dX0_beginsStatement_124 rfl (lv_at hl 1 rfl) ?_
          refine lv_iconst (v := (-1 : Int32)) hE.1 hE.2.1 dX0_beginsStatement_125 (by decide) ?_
          refine clVi (rest := []) (As := [.int a1, .int (-1 : Int32)]) hE hml hl.1 hw (c_X0_addsStep hE.2.2.2.2.2 l _ _ _ _ hq) cu217 cu218 cu219 cu220 cu138 rfl (k := 2) (by decide +kernel) (by decide) (ci := 0) rfl (q0 := 4) rfl rfl rfl (Nat.le_of_ble_eq_true rfl) dX0_beginsStatement_126 (by decide) (fun r11 σ5 hq H locs hw => ?_)
          refine lv_if_eq (tgt := 144) hE.1 hE.2.1 dX0_beginsStatement_129 (by decide) (fun c12 => ?_) (fun c12 => ?_)
          · have hq := hq.1 c12
            refine lv_iconst (v := (0 : Int32)) hE.1 hE.2.1 dX0_beginsStatement_144 (by decide) ?_
            exact rtZ hE hr hlk rfl hw hq dX0_beginsStatement_145
          · have hq := hq.2 c12
            refine lv_aload_n hE.1 hE.2.1 dX0_beginsStatement_132 rfl (lv_at hl 0 rfl) ?_
            refine lv_iconst (v := (4 : Int32)) hE.1 hE.2.1 dX0_beginsStatement_133 (by decide) ?_
            refine clVi (rest := []) (As := [.int (4 : Int32)]) hE hml hl.1 hw (c_X0_awaits hE.2.2.2.2.2 l _ _ _ hq) cu221 cu222 cu223 cu224 cu138 rfl (k := 1) (by decide +kernel) (by decide) (ci := 0) rfl (q0 := 4) rfl rfl rfl (Nat.le_of_ble_eq_true rfl) dX0_beginsStatement_134 (by decide) (fun r13 σ6 hq H locs hw => ?_)
            refine lv_if_eq (tgt := 144) hE.1 hE.2.1 dX0_beginsStatement_137 (by decide) (fun c14 => ?_) (fun c14 => ?_)
            · have hq := hq.1 c14
              refine lv_iconst (v := (0 : Int32)) hE.1 hE.2.1 dX0_beginsStatement_144 (by decide) ?_
              exact rtZ hE hr hlk rfl hw hq dX0_beginsStatement_145
            · have hq := hq.2 c14
              refine lv_iconst (v := (1 : Int32)) hE.1 hE.2.1 dX0_beginsStatement_140 (by decide) ?_
              refine lv_goto (tgt := 145) hE.1 hE.2.1 dX0_beginsStatement_141 (by decide) ?_
              exact rtZ hE hr hlk rfl hw hq dX0_beginsStatement_145
        · have hq := hq.2 c10
          by_cases c15 : a1 = (63 : Int32)
          · have hq := hq.1 c15
            refine lv_lookup (off := 72) (tgt := 123) hE.1 hE.2.1 dX0_beginsStatement_51 (by decide) ((lv_osw c5 rfl).trans ((lv_osw c10 rfl).trans (osw_hit c15 rfl))) (by decide) ?_
            refine lv_aload_n hE.1 hE.2.1 dX0_beginsStatement_123 rfl (lv_at hl 0 rfl) ?_
            refine lv_iload_n hE.1 hE.2.1 dX0_beginsStatement_124 rfl (lv_at hl 1 rfl) ?_
            refine lv_iconst (v := (-1 : Int32)) hE.1 hE.2.1 dX0_beginsStatement_125 (by decide) ?_
            refine clVi (rest := []) (As := [.int a1, .int (-1 : Int32)]) hE hml hl.1 hw (c_X0_addsStep hE.2.2.2.2.2 l _ _ _ _ hq) cu217 cu218 cu219 cu220 cu138 rfl (k := 2) (by decide +kernel) (by decide) (ci := 0) rfl (q0 := 4) rfl rfl rfl (Nat.le_of_ble_eq_true rfl) dX0_beginsStatement_126 (by decide) (fun r16 σ7 hq H locs hw => ?_)
            refine lv_if_eq (tgt := 144) hE.1 hE.2.1 dX0_beginsStatement_129 (by decide) (fun c17 => ?_) (fun c17 => ?_)
            · have hq := hq.1 c17
              refine lv_iconst (v := (0 : Int32)) hE.1 hE.2.1 dX0_beginsStatement_144 (by decide) ?_
              exact rtZ hE hr hlk rfl hw hq dX0_beginsStatement_145
            · have hq := hq.2 c17
              refine lv_aload_n hE.1 hE.2.1 dX0_beginsStatement_132 rfl (lv_at hl 0 rfl) ?_
              refine lv_iconst (v := (4 : Int32)) hE.1 hE.2.1 dX0_beginsStatement_133 (by decide) ?_
              refine clVi (rest := []) (As := [.int (4 : Int32)]) hE hml hl.1 hw (c_X0_awaits hE.2.2.2.2.2 l _ _ _ hq) cu221 cu222 cu223 cu224 cu138 rfl (k := 1) (by decide +kernel) (by decide) (ci := 0) rfl (q0 := 4) rfl rfl rfl (Nat.le_of_ble_eq_true rfl) dX0_beginsStatement_134 (by decide) (fun r18 σ8 hq H locs hw => ?_)
              refine lv_if_eq (tgt := 144) hE.1 hE.2.1 dX0_beginsStatement_137 (by decide) (fun c19 => ?_) (fun c19 => ?_)
              · have hq := hq.1 c19
                refine lv_iconst (v := (0 : Int32)) hE.1 hE.2.1 dX0_beginsStatement_144 (by decide) ?_
                exact rtZ hE hr hlk rfl hw hq dX0_beginsStatement_145
              · have hq := hq.2 c19
                refine lv_iconst (v := (1 : Int32)) hE.1 hE.2.1 dX0_beginsStatement_140 (by decide) ?_
                refine lv_goto (tgt := 145) hE.1 hE.2.1 dX0_beginsStatement_141 (by decide) ?_
                exact rtZ hE hr hlk rfl hw hq dX0_beginsStatement_145
          · have hq := hq.2 c15
            by_cases c20 : a1 = (64 : Int32)
            · have hq := hq.1 c20
              refine lv_lookup (off := 49) (tgt := 100) hE.1 hE.2.1 dX0_beginsStatement_51 (by decide) ((lv_osw c5 rfl).trans ((lv_osw c10 rfl).trans ((lv_osw c15 rfl).trans (osw_hit c20 rfl)))) (by decide) ?_
              refine lv_aload_n hE.1 hE.2.1 dX0_beginsStatement_100 rfl (lv_at hl 0 rfl) ?_
              refine lv_iload_n hE.1 hE.2.1 dX0_beginsStatement_101 rfl (lv_at hl 1 rfl) ?_
              refine lv_iconst (v := (-1 : Int32)) hE.1 hE.2.1 dX0_beginsStatement_102 (by decide) ?_
              refine clVi (rest := []) (As := [.int a1, .int (-1 : Int32)]) hE hml hl.1 hw (c_X0_addsStep hE.2.2.2.2.2 l _ _ _ _ hq) cu217 cu218 cu219 cu220 cu138 rfl (k := 2) (by decide +kernel) (by decide) (ci := 0) rfl (q0 := 4) rfl rfl rfl (Nat.le_of_ble_eq_true rfl) dX0_beginsStatement_103 (by decide) (fun r21 σ9 hq H locs hw => ?_)
              refine lv_if_eq (tgt := 121) hE.1 hE.2.1 dX0_beginsStatement_106 (by decide) (fun c22 => ?_) (fun c22 => ?_)
              · have hq := hq.1 c22
                refine lv_iconst (v := (0 : Int32)) hE.1 hE.2.1 dX0_beginsStatement_121 (by decide) ?_
                exact rtZ hE hr hlk rfl hw hq dX0_beginsStatement_122
              · have hq := hq.2 c22
                refine lv_aload_n hE.1 hE.2.1 dX0_beginsStatement_109 rfl (lv_at hl 0 rfl) ?_
                refine lv_iconst (v := (3 : Int32)) hE.1 hE.2.1 dX0_beginsStatement_110 (by decide) ?_
                refine clVi (rest := []) (As := [.int (3 : Int32)]) hE hml hl.1 hw (c_X0_awaits hE.2.2.2.2.2 l _ _ _ hq) cu221 cu222 cu223 cu224 cu138 rfl (k := 1) (by decide +kernel) (by decide) (ci := 0) rfl (q0 := 4) rfl rfl rfl (Nat.le_of_ble_eq_true rfl) dX0_beginsStatement_111 (by decide) (fun r23 σ10 hq H locs hw => ?_)
                refine lv_if_eq (tgt := 121) hE.1 hE.2.1 dX0_beginsStatement_114 (by decide) (fun c24 => ?_) (fun c24 => ?_)
                · have hq := hq.1 c24
                  refine lv_iconst (v := (0 : Int32)) hE.1 hE.2.1 dX0_beginsStatement_121 (by decide) ?_
                  exact rtZ hE hr hlk rfl hw hq dX0_beginsStatement_122
                · have hq := hq.2 c24
                  refine lv_iconst (v := (1 : Int32)) hE.1 hE.2.1 dX0_beginsStatement_117 (by decide) ?_
                  refine lv_goto (tgt := 122) hE.1 hE.2.1 dX0_beginsStatement_118 (by decide) ?_
                  exact rtZ hE hr hlk rfl hw hq dX0_beginsStatement_122
            · have hq := hq.2 c20
              by_cases c25 : a1 = (125 : Int32)
              · have hq := hq.1 c25
                refine lv_lookup (off := 95) (tgt := 146) hE.1 hE.2.1 dX0_beginsStatement_51 (by decide) ((lv_osw c5 rfl).trans ((lv_osw c10 rfl).trans ((lv_osw c15 rfl).trans ((lv_osw c20 rfl).trans (osw_hit c25 rfl))))) (by decide) ?_
                refine lv_aload_n hE.1 hE.2.1 dX0_beginsStatement_146 rfl (lv_at hl 0 rfl) ?_
                refine clVi (rest := []) (As := []) hE hml hl.1 hw (c_X0_closesBlock hE.2.2.2.2.2 l _ _ hq) cu229 cu230 cu231 cu232 cu138 rfl (k := 0) (by decide +kernel) (by decide) (ci := 0) rfl (q0 := 4) rfl rfl rfl (Nat.le_of_ble_eq_true rfl) dX0_beginsStatement_147 (by decide) (fun r26 σ11 hq H locs hw => ?_)
                exact rtZ hE hr hlk hq.1 hw hq.2 dX0_beginsStatement_150
              · have hq := hq.2 c25
                refine lv_lookup (off := 100) (tgt := 151) hE.1 hE.2.1 dX0_beginsStatement_51 (by decide) ((lv_osw c5 rfl).trans ((lv_osw c10 rfl).trans ((lv_osw c15 rfl).trans ((lv_osw c20 rfl).trans ((lv_osw c25 rfl).trans rfl))))) (by decide) ?_
                refine lv_iconst (v := (0 : Int32)) hE.1 hE.2.1 dX0_beginsStatement_151 (by decide) ?_
                exact rtZ hE hr hlk rfl hw hq dX0_beginsStatement_152
    · have hq := hq.2 c4
      refine lv_aload_n hE.1 hE.2.1 dX0_beginsStatement_23 rfl (lv_at hl 0 rfl) ?_
      refine lv_bipush (v := (61 : Int32)) hE.1 hE.2.1 dX0_beginsStatement_24 (by decide) ?_
      refine lv_iload_n hE.1 hE.2.1 dX0_beginsStatement_26 rfl (lv_at hl 1 rfl) ?_
      refine lv_bipush (v := (97 : Int32)) hE.1 hE.2.1 dX0_beginsStatement_27 (by decide) ?_
      refine lv_isub hE.1 hE.2.1 dX0_beginsStatement_29 ?_
      refine clVi (rest := []) (As := [.int (61 : Int32), .int (a1 - (97 : Int32))]) hE hml hl.1 hw (c_X0_addsStep hE.2.2.2.2.2 l _ _ _ _ hq) cu217 cu218 cu219 cu220 cu138 rfl (k := 2) (by decide +kernel) (by decide) (ci := 0) rfl (q0 := 4) rfl rfl rfl (Nat.le_of_ble_eq_true rfl) dX0_beginsStatement_30 (by decide) (fun r27 σ12 hq H locs hw => ?_)
      refine lv_if_eq (tgt := 48) hE.1 hE.2.1 dX0_beginsStatement_33 (by decide) (fun c28 => ?_) (fun c28 => ?_)
      · have hq := hq.1 c28
        refine lv_iconst (v := (0 : Int32)) hE.1 hE.2.1 dX0_beginsStatement_48 (by decide) ?_
        exact rtZ hE hr hlk rfl hw hq dX0_beginsStatement_49
      · have hq := hq.2 c28
        refine lv_aload_n hE.1 hE.2.1 dX0_beginsStatement_36 rfl (lv_at hl 0 rfl) ?_
        refine lv_iconst (v := (2 : Int32)) hE.1 hE.2.1 dX0_beginsStatement_37 (by decide) ?_
        refine clVi (rest := []) (As := [.int (2 : Int32)]) hE hml hl.1 hw (c_X0_awaits hE.2.2.2.2.2 l _ _ _ hq) cu221 cu222 cu223 cu224 cu138 rfl (k := 1) (by decide +kernel) (by decide) (ci := 0) rfl (q0 := 4) rfl rfl rfl (Nat.le_of_ble_eq_true rfl) dX0_beginsStatement_38 (by decide) (fun r29 σ13 hq H locs hw => ?_)
        refine lv_if_eq (tgt := 48) hE.1 hE.2.1 dX0_beginsStatement_41 (by decide) (fun c30 => ?_) (fun c30 => ?_)
        · have hq := hq.1 c30
          refine lv_iconst (v := (0 : Int32)) hE.1 hE.2.1 dX0_beginsStatement_48 (by decide) ?_
          exact rtZ hE hr hlk rfl hw hq dX0_beginsStatement_49
        · have hq := hq.2 c30
          refine lv_iconst (v := (1 : Int32)) hE.1 hE.2.1 dX0_beginsStatement_44 (by decide) ?_
          refine lv_goto (tgt := 49) hE.1 hE.2.1 dX0_beginsStatement_45 (by decide) ?_
          exact rtZ hE hr hlk rfl hw hq dX0_beginsStatement_49
  · have hq := hq.2 c2
    refine lv_aload_n hE.1 hE.2.1 dX0_beginsStatement_7 rfl (lv_at hl 0 rfl) ?_
    refine lv_iload_n hE.1 hE.2.1 dX0_beginsStatement_8 rfl (lv_at hl 1 rfl) ?_
    refine lv_bipush (v := (65 : Int32)) hE.1 hE.2.1 dX0_beginsStatement_9 (by decide) ?_
    refine lv_isub hE.1 hE.2.1 dX0_beginsStatement_11 ?_
    refine clVi (rest := []) (As := [.int (a1 - (65 : Int32))]) hE hml hl.1 hw (c_X0_takesProcedure hE.2.2.2.2.2 l _ _ _ hq) cu237 cu238 cu239 cu240 cu138 rfl (k := 1) (by decide +kernel) (by decide) (ci := 0) rfl (q0 := 4) rfl rfl rfl (Nat.le_of_ble_eq_true rfl) dX0_beginsStatement_12 (by decide) (fun r31 σ14 hq H locs hw => ?_)
    exact rtZ hE hr hlk hq.1 hw hq.2 dX0_beginsStatement_15
/-! QueueBench$Expression.goOnWithValue()V -/
abbrev rm_X1_goOnWithValue : Room := { frames := 0, cells := 0, slots := 0, locals := 0 }
def wp_X1_goOnWithValue  (σ : S9) (Φ : S9 → Prop) : Prop := ∀ σ1 : S9, σ1 = sF σ 16 (1 : Int32) → Φ σ1
theorem dX1_goOnWithValue_0 : decode cX1_goOnWithValue 0 = .ok (.aload_n 0, 1) := by decide +kernel
theorem dX1_goOnWithValue_1 : decode cX1_goOnWithValue 1 = .ok (.iconst 1, 1) := by decide +kernel
theorem dX1_goOnWithValue_2 : decode cX1_goOnWithValue 2 = .ok (.putfield 37, 3) := by decide +kernel
theorem dX1_goOnWithValue_5 : decode cX1_goOnWithValue 5 = .ok (.return_, 1) := by decide +kernel
set_option maxRecDepth 20000 in
set_option maxHeartbeats 4000000 in
theorem c_X1_goOnWithValue {G : GG} (hJ : gJ 40 G) (l : Launch)  (σ : S9) (Φ : S9 → Prop) (hq : wp_X1_goOnWithValue  σ Φ) : CV cwl 40 G l yX1_goOnWithValue cX1_goOnWithValue 1 rm_X1_goOnWithValue [.ref (gAd G 6)] σ Φ := by
  refine CV.intro (by decide) (Nat.le_of_ble_eq_true rfl) hJ ?_
  intro p e s m args below meth c ls hE hml hr hlk hw hl
  have hl : lv_has ls 1 [(0, .ref (gAd G 6))] := hl
  unfold wp_X1_goOnWithValue at hq
  refine lv_aload_n hE.1 hE.2.1 dX1_goOnWithValue_0 rfl (lv_at hl 0 rfl) ?_
  refine lv_iconst (v := (1 : Int32)) hE.1 hE.2.1 dX1_goOnWithValue_1 (by decide) ?_
  refine cpf_X1_37 hE hw rfl (by decide) dX1_goOnWithValue_2 (fun σ1 eσ1 H locs hw => ?_)
  have hq := hq σ1 eσ1
  exact rtV hE hr hlk hw hq dX1_goOnWithValue_5
/-! QueueBench$Compiler.awaitsValue()Z -/
abbrev rm_X0_awaitsValue : Room := { frames := 1, cells := 0, slots := 0, locals := 21 }
def wp_X0_awaitsValue  (σ : S9) (Φ : Int32 → S9 → Prop) : Prop := wp_X1_goOnWithValue σ (fun σ1 => wp_X0_awaits (4 : Int32) σ1 (fun r1 σ2 => narrow .boolean (.int r1) = .int r1 ∧ Φ r1 σ2))
theorem dX0_awaitsValue_0 : decode cX0_awaitsValue 0 = .ok (.aload_n 0, 1) := by decide +kernel
theorem dX0_awaitsValue_1 : decode cX0_awaitsValue 1 = .ok (.getfield 43, 3) := by decide +kernel
theorem dX0_awaitsValue_4 : decode cX0_awaitsValue 4 = .ok (.invokevirtual 114, 3) := by decide +kernel
theorem dX0_awaitsValue_7 : decode cX0_awaitsValue 7 = .ok (.aload_n 0, 1) := by decide +kernel
theorem dX0_awaitsValue_8 : decode cX0_awaitsValue 8 = .ok (.iconst 4, 1) := by decide +kernel
theorem dX0_awaitsValue_9 : decode cX0_awaitsValue 9 = .ok (.invokevirtual 95, 3) := by decide +kernel
theorem dX0_awaitsValue_12 : decode cX0_awaitsValue 12 = .ok (.ireturn, 1) := by decide +kernel
set_option maxRecDepth 20000 in
set_option maxHeartbeats 4000000 in
theorem c_X0_awaitsValue {G : GG} (hJ : gJ 40 G) (l : Launch)  (σ : S9) (Φ : Int32 → S9 → Prop) (hq : wp_X0_awaitsValue  σ Φ) : CI cwl 40 G l yX0_awaitsValue cX0_awaitsValue 1 (some .boolean) rm_X0_awaitsValue [.ref (gAd G 4)] σ Φ := by
  refine CI.intro (by decide) (Nat.le_of_ble_eq_true rfl) hJ ?_
  intro p e s m args below meth c ls hE hml hr hlk hw hl
  have hl : lv_has ls 1 [(0, .ref (gAd G 4))] := hl
  unfold wp_X0_awaitsValue at hq
  refine lv_aload_n hE.1 hE.2.1 dX0_awaitsValue_0 rfl (lv_at hl 0 rfl) ?_
  refine cgf_X0_43 hE hw dX0_awaitsValue_1 ?_
  refine clVv (rest := []) (As := []) hE hml hl.1 hw (c_X1_goOnWithValue hE.2.2.2.2.2 l _ _ hq) cu245 cu246 cu247 cu248 cu213 rfl (k := 0) (by decide +kernel) (by decide) (ci := 1) rfl (q0 := 6) rfl rfl rfl (Nat.le_of_ble_eq_true rfl) dX0_awaitsValue_4 (by decide) (fun σ1 hq H locs hw => ?_)
  refine lv_aload_n hE.1 hE.2.1 dX0_awaitsValue_7 rfl (lv_at hl 0 rfl) ?_
  refine lv_iconst (v := (4 : Int32)) hE.1 hE.2.1 dX0_awaitsValue_8 (by decide) ?_
  refine clVi (rest := []) (As := [.int (4 : Int32)]) hE hml hl.1 hw (c_X0_awaits hE.2.2.2.2.2 l _ _ _ hq) cu221 cu222 cu223 cu224 cu138 rfl (k := 1) (by decide +kernel) (by decide) (ci := 0) rfl (q0 := 4) rfl rfl rfl (Nat.le_of_ble_eq_true rfl) dX0_awaitsValue_9 (by decide) (fun r1 σ2 hq H locs hw => ?_)
  exact rtZ hE hr hlk hq.1 hw hq.2 dX0_awaitsValue_12
/-! QueueBench$Program.addCode(CI)V -/
abbrev rm_X6_addCode : Room := { frames := 0, cells := 0, slots := 0, locals := 0 }
def wp_X6_addCode (a1 : Int32) (a2 : Int32) (σ : S9) (Φ : S9 → Prop) : Prop := ∀ x1 : Int32, x1 = ((σ.1 4) - (1 : Int32)) → (x1 < 0 → Φ σ) ∧ (¬ x1 < 0 → vp_in x1 300 ∧ ((3000 : Int32) ≤ (σ.2.1 9 (x1).toNatClampNeg) → Φ σ) ∧ (¬ (3000 : Int32) ≤ (σ.2.1 9 (x1).toNatClampNeg) → vp_in x1 300 ∧ vp_in (σ.2.1 9 (x1).toNatClampNeg) 3000 ∧ ∀ σ1 : S9, σ1 = sA σ 10 (upd (σ.2.1 10) ((σ.2.1 9 (x1).toNatClampNeg)).toNatClampNeg (vp_nar .char a1)) → vp_in x1 300 ∧ vp_in (σ1.2.1 9 (x1).toNatClampNeg) 3000 ∧ ∀ σ2 : S9, σ2 = sA σ1 11 (upd (σ1.2.1 11) ((σ1.2.1 9 (x1).toNatClampNeg)).toNatClampNeg a2) → vp_in x1 300 ∧ vp_in x1 300 ∧ ∀ σ3 : S9, σ3 = sA σ2 9 (upd (σ2.2.1 9) (x1).toNatClampNeg ((σ2.2.1 9 (x1).toNatClampNeg) + (1 : Int32))) → Φ σ3))
theorem dX6_addCode_0 : decode cX6_addCode 0 = .ok (.aload_n 0, 1) := by decide +kernel
theorem dX6_addCode_1 : decode cX6_addCode 1 = .ok (.getfield 46, 3) := by decide +kernel
theorem dX6_addCode_4 : decode cX6_addCode 4 = .ok (.iconst 1, 1) := by decide +kernel
theorem dX6_addCode_5 : decode cX6_addCode 5 = .ok (.isub, 1) := by decide +kernel
theorem dX6_addCode_6 : decode cX6_addCode 6 = .ok (.istore_n 3, 1) := by decide +kernel
theorem dX6_addCode_7 : decode cX6_addCode 7 = .ok (.iload_n 3, 1) := by decide +kernel
theorem dX6_addCode_8 : decode cX6_addCode 8 = .ok (.ifCond .lt 49, 3) := by decide +kernel
theorem dX6_addCode_11 : decode cX6_addCode 11 = .ok (.aload_n 0, 1) := by decide +kernel
theorem dX6_addCode_12 : decode cX6_addCode 12 = .ok (.getfield 34, 3) := by decide +kernel
theorem dX6_addCode_15 : decode cX6_addCode 15 = .ok (.iload_n 3, 1) := by decide +kernel
theorem dX6_addCode_16 : decode cX6_addCode 16 = .ok (.iaload, 1) := by decide +kernel
theorem dX6_addCode_17 : decode cX6_addCode 17 = .ok (.sipush 3000, 3) := by decide +kernel
theorem dX6_addCode_20 : decode cX6_addCode 20 = .ok (.if_icmp .ge 37, 3) := by decide +kernel
theorem dX6_addCode_23 : decode cX6_addCode 23 = .ok (.aload_n 0, 1) := by decide +kernel
theorem dX6_addCode_24 : decode cX6_addCode 24 = .ok (.getfield 37, 3) := by decide +kernel
theorem dX6_addCode_27 : decode cX6_addCode 27 = .ok (.aload_n 0, 1) := by decide +kernel
theorem dX6_addCode_28 : decode cX6_addCode 28 = .ok (.getfield 34, 3) := by decide +kernel
theorem dX6_addCode_31 : decode cX6_addCode 31 = .ok (.iload_n 3, 1) := by decide +kernel
theorem dX6_addCode_32 : decode cX6_addCode 32 = .ok (.iaload, 1) := by decide +kernel
theorem dX6_addCode_33 : decode cX6_addCode 33 = .ok (.iload_n 1, 1) := by decide +kernel
theorem dX6_addCode_34 : decode cX6_addCode 34 = .ok (.castore, 1) := by decide +kernel
theorem dX6_addCode_35 : decode cX6_addCode 35 = .ok (.aload_n 0, 1) := by decide +kernel
theorem dX6_addCode_36 : decode cX6_addCode 36 = .ok (.getfield 40, 3) := by decide +kernel
theorem dX6_addCode_39 : decode cX6_addCode 39 = .ok (.aload_n 0, 1) := by decide +kernel
theorem dX6_addCode_40 : decode cX6_addCode 40 = .ok (.getfield 34, 3) := by decide +kernel
theorem dX6_addCode_43 : decode cX6_addCode 43 = .ok (.iload_n 3, 1) := by decide +kernel
theorem dX6_addCode_44 : decode cX6_addCode 44 = .ok (.iaload, 1) := by decide +kernel
theorem dX6_addCode_45 : decode cX6_addCode 45 = .ok (.iload_n 2, 1) := by decide +kernel
theorem dX6_addCode_46 : decode cX6_addCode 46 = .ok (.iastore, 1) := by decide +kernel
theorem dX6_addCode_47 : decode cX6_addCode 47 = .ok (.aload_n 0, 1) := by decide +kernel
theorem dX6_addCode_48 : decode cX6_addCode 48 = .ok (.getfield 34, 3) := by decide +kernel
theorem dX6_addCode_51 : decode cX6_addCode 51 = .ok (.iload_n 3, 1) := by decide +kernel
theorem dX6_addCode_52 : decode cX6_addCode 52 = .ok (.dup2, 1) := by decide +kernel
theorem dX6_addCode_53 : decode cX6_addCode 53 = .ok (.iaload, 1) := by decide +kernel
theorem dX6_addCode_54 : decode cX6_addCode 54 = .ok (.iconst 1, 1) := by decide +kernel
theorem dX6_addCode_55 : decode cX6_addCode 55 = .ok (.iadd, 1) := by decide +kernel
theorem dX6_addCode_56 : decode cX6_addCode 56 = .ok (.iastore, 1) := by decide +kernel
theorem dX6_addCode_57 : decode cX6_addCode 57 = .ok (.return_, 1) := by decide +kernel
set_option maxRecDepth 20000 in
set_option maxHeartbeats 4000000 in
theorem c_X6_addCode {G : GG} (hJ : gJ 40 G) (l : Launch) (a1 : Int32) (a2 : Int32) (σ : S9) (Φ : S9 → Prop) (hq : wp_X6_addCode a1 a2 σ Φ) : CV cwl 40 G l yX6_addCode cX6_addCode 4 rm_X6_addCode [.ref (gAd G 3), .int a1, .int a2] σ Φ := by
  refine CV.intro (by decide) (Nat.le_of_ble_eq_true rfl) hJ ?_
  intro p e s m args below meth c ls hE hml hr hlk hw hl
  have hl : lv_has ls 4 [(0, .ref (gAd G 3)), (1, .int a1), (2, .int a2)] := hl
  unfold wp_X6_addCode at hq
  refine lv_aload_n hE.1 hE.2.1 dX6_addCode_0 rfl (lv_at hl 0 rfl) ?_
  refine cgf_X6_46 hE hw dX6_addCode_1 ?_
  refine lv_iconst (v := (1 : Int32)) hE.1 hE.2.1 dX6_addCode_4 (by decide) ?_
  refine lv_isub hE.1 hE.2.1 dX6_addCode_5 ?_
  refine lv_topi (fun x1 ex1 => ?_)
  have hq := hq x1 ex1
  refine lv_istore_n (lv' := [(3, .int x1), (0, .ref (gAd G 3)), (1, .int a1), (2, .int a2)]) hE.1 hE.2.1 dX6_addCode_6 rfl hl (by decide) rfl (fun ls hl => ?_)
  refine lv_iload_n hE.1 hE.2.1 dX6_addCode_7 rfl (lv_at hl 0 rfl) ?_
  refine lv_if_lt (tgt := 57) hE.1 hE.2.1 dX6_addCode_8 (by decide) (fun c2 => ?_) (fun c2 => ?_)
  · have hq := hq.1 c2
    exact rtV hE hr hlk hw hq dX6_addCode_57
  · have hq := hq.2 c2
    refine lv_aload_n hE.1 hE.2.1 dX6_addCode_11 rfl (lv_at hl 1 rfl) ?_
    refine cgf_X6_34 hE hw dX6_addCode_12 ?_
    refine lv_iload_n hE.1 hE.2.1 dX6_addCode_15 rfl (lv_at hl 0 rfl) ?_
    obtain ⟨hi3, hq⟩ := hq
    refine cal_21 hE hw hi3 dX6_addCode_16 ?_
    refine lv_sipush (v := (3000 : Int32)) hE.1 hE.2.1 dX6_addCode_17 (by decide) ?_
    refine lv_icmp_ge (tgt := 57) hE.1 hE.2.1 dX6_addCode_20 (by decide) (fun c4 => ?_) (fun c4 => ?_)
    · have hq := hq.1 c4
      exact rtV hE hr hlk hw hq dX6_addCode_57
    · have hq := hq.2 c4
      refine lv_aload_n hE.1 hE.2.1 dX6_addCode_23 rfl (lv_at hl 1 rfl) ?_
      refine cgf_X6_37 hE hw dX6_addCode_24 ?_
      refine lv_aload_n hE.1 hE.2.1 dX6_addCode_27 rfl (lv_at hl 1 rfl) ?_
      refine cgf_X6_34 hE hw dX6_addCode_28 ?_
      refine lv_iload_n hE.1 hE.2.1 dX6_addCode_31 rfl (lv_at hl 0 rfl) ?_
      obtain ⟨hi5, hq⟩ := hq
      refine cal_21 hE hw hi5 dX6_addCode_32 ?_
      refine lv_iload_n hE.1 hE.2.1 dX6_addCode_33 rfl (lv_at hl 2 rfl) ?_
      obtain ⟨hi6, hq⟩ := hq
      refine cas_22 hE hw hi6 dX6_addCode_34 (fun σ1 eσ1 H locs hw => ?_)
      have hq := hq σ1 eσ1
      refine lv_aload_n hE.1 hE.2.1 dX6_addCode_35 rfl (lv_at hl 1 rfl) ?_
      refine cgf_X6_40 hE hw dX6_addCode_36 ?_
      refine lv_aload_n hE.1 hE.2.1 dX6_addCode_39 rfl (lv_at hl 1 rfl) ?_
      refine cgf_X6_34 hE hw dX6_addCode_40 ?_
      refine lv_iload_n hE.1 hE.2.1 dX6_addCode_43 rfl (lv_at hl 0 rfl) ?_
      obtain ⟨hi7, hq⟩ := hq
      refine cal_21 hE hw hi7 dX6_addCode_44 ?_
      refine lv_iload_n hE.1 hE.2.1 dX6_addCode_45 rfl (lv_at hl 3 rfl) ?_
      obtain ⟨hi8, hq⟩ := hq
      refine cas_23 hE hw hi8 dX6_addCode_46 (fun σ2 eσ2 H locs hw => ?_)
      have hq := hq σ2 eσ2
      refine lv_aload_n hE.1 hE.2.1 dX6_addCode_47 rfl (lv_at hl 1 rfl) ?_
      refine cgf_X6_34 hE hw dX6_addCode_48 ?_
      refine lv_iload_n hE.1 hE.2.1 dX6_addCode_51 rfl (lv_at hl 0 rfl) ?_
      refine lv_dup2_11 hE.1 hE.2.1 dX6_addCode_52 rfl rfl ?_
      obtain ⟨hi9, hq⟩ := hq
      refine cal_21 hE hw hi9 dX6_addCode_53 ?_
      refine lv_iconst (v := (1 : Int32)) hE.1 hE.2.1 dX6_addCode_54 (by decide) ?_
      refine lv_iadd hE.1 hE.2.1 dX6_addCode_55 ?_
      obtain ⟨hi10, hq⟩ := hq
      refine cas_21 hE hw hi10 dX6_addCode_56 (fun σ3 eσ3 H locs hw => ?_)
      have hq := hq σ3 eσ3
      exact rtV hE hr hlk hw hq dX6_addCode_57
/-! QueueBench$Expression.writeDownTo(I)V -/
abbrev rm_X1_writeDownTo : Room := { frames := 1, cells := 0, slots := 0, locals := 23 }
def bd_X1_writeDownTo_b0 (K0 : Int32 → S9 → Prop) (Φ : S9 → Prop) (a1 : Int32) (σ : S9) : Prop := ((σ.1 13) ≤ 0 → Φ σ) ∧ (¬ (σ.1 13) ≤ 0 → vp_in ((σ.1 13) - (1 : Int32)) 120 ∧ ((σ.2.1 18 (((σ.1 13) - (1 : Int32))).toNatClampNeg) < a1 → Φ σ) ∧ (¬ (σ.2.1 18 (((σ.1 13) - (1 : Int32))).toNatClampNeg) < a1 → ∀ σ1 : S9, σ1 = sF σ 13 ((σ.1 13) - (1 : Int32)) → vp_in (σ1.1 13) 120 ∧ wp_X6_addCode (σ1.2.1 17 ((σ1.1 13)).toNatClampNeg) (0 : Int32) σ1 (fun σ2 => K0 a1 σ2)))
def lp_X1_writeDownTo_b0  (Φ : S9 → Prop) : Nat → Int32 → S9 → Prop
  | 0 => fun _ _ => False
  | n + 1 => bd_X1_writeDownTo_b0  (lp_X1_writeDownTo_b0  Φ n) Φ
def wp_X1_writeDownTo (a1 : Int32) (σ : S9) (Φ : S9 → Prop) : Prop := ∃ n : Nat, lp_X1_writeDownTo_b0  Φ n a1 σ
theorem dX1_writeDownTo_0 : decode cX1_writeDownTo 0 = .ok (.aload_n 0, 1) := by decide +kernel
theorem dX1_writeDownTo_1 : decode cX1_writeDownTo 1 = .ok (.getfield 27, 3) := by decide +kernel
theorem dX1_writeDownTo_4 : decode cX1_writeDownTo 4 = .ok (.ifCond .le 48, 3) := by decide +kernel
theorem dX1_writeDownTo_7 : decode cX1_writeDownTo 7 = .ok (.aload_n 0, 1) := by decide +kernel
theorem dX1_writeDownTo_8 : decode cX1_writeDownTo 8 = .ok (.getfield 15, 3) := by decide +kernel
theorem dX1_writeDownTo_11 : decode cX1_writeDownTo 11 = .ok (.aload_n 0, 1) := by decide +kernel
theorem dX1_writeDownTo_12 : decode cX1_writeDownTo 12 = .ok (.getfield 27, 3) := by decide +kernel
theorem dX1_writeDownTo_15 : decode cX1_writeDownTo 15 = .ok (.iconst 1, 1) := by decide +kernel
theorem dX1_writeDownTo_16 : decode cX1_writeDownTo 16 = .ok (.isub, 1) := by decide +kernel
theorem dX1_writeDownTo_17 : decode cX1_writeDownTo 17 = .ok (.iaload, 1) := by decide +kernel
theorem dX1_writeDownTo_18 : decode cX1_writeDownTo 18 = .ok (.iload_n 1, 1) := by decide +kernel
theorem dX1_writeDownTo_19 : decode cX1_writeDownTo 19 = .ok (.if_icmp .lt 33, 3) := by decide +kernel
theorem dX1_writeDownTo_22 : decode cX1_writeDownTo 22 = .ok (.aload_n 0, 1) := by decide +kernel
theorem dX1_writeDownTo_23 : decode cX1_writeDownTo 23 = .ok (.dup, 1) := by decide +kernel
theorem dX1_writeDownTo_24 : decode cX1_writeDownTo 24 = .ok (.getfield 27, 3) := by decide +kernel
theorem dX1_writeDownTo_27 : decode cX1_writeDownTo 27 = .ok (.iconst 1, 1) := by decide +kernel
theorem dX1_writeDownTo_28 : decode cX1_writeDownTo 28 = .ok (.isub, 1) := by decide +kernel
theorem dX1_writeDownTo_29 : decode cX1_writeDownTo 29 = .ok (.putfield 27, 3) := by decide +kernel
theorem dX1_writeDownTo_32 : decode cX1_writeDownTo 32 = .ok (.aload_n 0, 1) := by decide +kernel
theorem dX1_writeDownTo_33 : decode cX1_writeDownTo 33 = .ok (.getfield 23, 3) := by decide +kernel
theorem dX1_writeDownTo_36 : decode cX1_writeDownTo 36 = .ok (.aload_n 0, 1) := by decide +kernel
theorem dX1_writeDownTo_37 : decode cX1_writeDownTo 37 = .ok (.getfield 11, 3) := by decide +kernel
theorem dX1_writeDownTo_40 : decode cX1_writeDownTo 40 = .ok (.aload_n 0, 1) := by decide +kernel
theorem dX1_writeDownTo_41 : decode cX1_writeDownTo 41 = .ok (.getfield 27, 3) := by decide +kernel
theorem dX1_writeDownTo_44 : decode cX1_writeDownTo 44 = .ok (.caload, 1) := by decide +kernel
theorem dX1_writeDownTo_45 : decode cX1_writeDownTo 45 = .ok (.iconst 0, 1) := by decide +kernel
theorem dX1_writeDownTo_46 : decode cX1_writeDownTo 46 = .ok (.invokevirtual 75, 3) := by decide +kernel
theorem dX1_writeDownTo_49 : decode cX1_writeDownTo 49 = .ok (.goto (-49), 3) := by decide +kernel
theorem dX1_writeDownTo_52 : decode cX1_writeDownTo 52 = .ok (.return_, 1) := by decide +kernel
set_option maxRecDepth 20000 in
set_option maxHeartbeats 4000000 in
theorem tb_X1_writeDownTo_b0 {p : Program} {l : Launch} {e : Env} {s : State} {m : MethodId} {args : Array Value} {below : List Frame} {meth : Method} {c : Code} {G : GG} {Φ : S9 → Prop} {K0 : Int32 → S9 → Prop} (hE : Ev 40 G p s m args c cX1_writeDownTo RX1) (hml : c.maxLocals = 2) (hr : meth.sig.returnType = none) (hlk : meth.locks = false) (hK0 : ∀ (a1 : Int32) (σ : S9) (H : Heap) (locs : List Loc) (ls : Array Slot), K0 a1 σ → Pic cwl 40 G σ s.heap H locs → lv_has ls 2 [(0, .ref (gAd G 6)), (1, .int a1)] → W p l e rm_X1_writeDownTo s m args below meth c H locs 0 0 (QV cwl 40 G below args s Φ) (F0 m 0 ls [])) {a1 : Int32} {σ : S9} {H : Heap} {locs : List Loc} {ls : Array Slot} (hq : bd_X1_writeDownTo_b0 K0 Φ a1 σ) (hw : Pic cwl 40 G σ s.heap H locs) (hl : lv_has ls 2 [(0, .ref (gAd G 6)), (1, .int a1)]) : W p l e rm_X1_writeDownTo s m args below meth c H locs 0 0 (QV cwl 40 G below args s Φ) (F0 m 0 ls []) := by
  unfold bd_X1_writeDownTo_b0 at hq
  refine lv_aload_n hE.1 hE.2.1 dX1_writeDownTo_0 rfl (lv_at hl 0 rfl) ?_
  refine cgf_X1_27 hE hw dX1_writeDownTo_1 ?_
  refine lv_if_le (tgt := 52) hE.1 hE.2.1 dX1_writeDownTo_4 (by decide) (fun c1 => ?_) (fun c1 => ?_)
  · have hq := hq.1 c1
    exact rtV hE hr hlk hw hq dX1_writeDownTo_52
  · have hq := hq.2 c1
    refine lv_aload_n hE.1 hE.2.1 dX1_writeDownTo_7 rfl (lv_at hl 0 rfl) ?_
    refine cgf_X1_15 hE hw dX1_writeDownTo_8 ?_
    refine lv_aload_n hE.1 hE.2.1 dX1_writeDownTo_11 rfl (lv_at hl 0 rfl) ?_
    refine cgf_X1_27 hE hw dX1_writeDownTo_12 ?_
    refine lv_iconst (v := (1 : Int32)) hE.1 hE.2.1 dX1_writeDownTo_15 (by decide) ?_
    refine lv_isub hE.1 hE.2.1 dX1_writeDownTo_16 ?_
    obtain ⟨hi2, hq⟩ := hq
    refine cal_30 hE hw hi2 dX1_writeDownTo_17 ?_
    refine lv_iload_n hE.1 hE.2.1 dX1_writeDownTo_18 rfl (lv_at hl 1 rfl) ?_
    refine lv_icmp_lt (tgt := 52) hE.1 hE.2.1 dX1_writeDownTo_19 (by decide) (fun c3 => ?_) (fun c3 => ?_)
    · have hq := hq.1 c3
      exact rtV hE hr hlk hw hq dX1_writeDownTo_52
    · have hq := hq.2 c3
      refine lv_aload_n hE.1 hE.2.1 dX1_writeDownTo_22 rfl (lv_at hl 0 rfl) ?_
      refine lv_dup hE.1 hE.2.1 dX1_writeDownTo_23 rfl ?_
      refine cgf_X1_27 hE hw dX1_writeDownTo_24 ?_
      refine lv_iconst (v := (1 : Int32)) hE.1 hE.2.1 dX1_writeDownTo_27 (by decide) ?_
      refine lv_isub hE.1 hE.2.1 dX1_writeDownTo_28 ?_
      refine cpf_X1_27 hE hw dX1_writeDownTo_29 (fun σ1 eσ1 H locs hw => ?_)
      have hq := hq σ1 eσ1
      refine lv_aload_n hE.1 hE.2.1 dX1_writeDownTo_32 rfl (lv_at hl 0 rfl) ?_
      refine cgf_X1_23 hE hw dX1_writeDownTo_33 ?_
      refine lv_aload_n hE.1 hE.2.1 dX1_writeDownTo_36 rfl (lv_at hl 0 rfl) ?_
      refine cgf_X1_11 hE hw dX1_writeDownTo_37 ?_
      refine lv_aload_n hE.1 hE.2.1 dX1_writeDownTo_40 rfl (lv_at hl 0 rfl) ?_
      refine cgf_X1_27 hE hw dX1_writeDownTo_41 ?_
      obtain ⟨hi4, hq⟩ := hq
      refine cal_29 hE hw hi4 dX1_writeDownTo_44 ?_
      refine lv_iconst (v := (0 : Int32)) hE.1 hE.2.1 dX1_writeDownTo_45 (by decide) ?_
      refine clVv (rest := []) (As := [.int (σ1.2.1 17 ((σ1.1 13)).toNatClampNeg), .int (0 : Int32)]) hE hml hl.1 hw (c_X6_addCode hE.2.2.2.2.2 l _ _ _ _ hq) cu258 cu259 cu260 cu261 cu25 rfl (k := 2) (by decide +kernel) (by decide) (ci := 6) rfl (q0 := 3) rfl rfl rfl (Nat.le_of_ble_eq_true rfl) dX1_writeDownTo_46 (by decide) (fun σ2 hq H locs hw => ?_)
      refine lv_goto (tgt := 0) hE.1 hE.2.1 dX1_writeDownTo_49 (by decide) ?_
      exact hK0 _ _ _ _ _ hq hw (lv_sub hl [0, 1] rfl)
theorem tl_X1_writeDownTo_b0 {p : Program} {l : Launch} {e : Env} {s : State} {m : MethodId} {args : Array Value} {below : List Frame} {meth : Method} {c : Code} {G : GG} {Φ : S9 → Prop}  (hE : Ev 40 G p s m args c cX1_writeDownTo RX1) (hml : c.maxLocals = 2) (hr : meth.sig.returnType = none) (hlk : meth.locks = false)  : ∀ (n : Nat) (a1 : Int32) (σ : S9) (H : Heap) (locs : List Loc) (ls : Array Slot), lp_X1_writeDownTo_b0  Φ n a1 σ → Pic cwl 40 G σ s.heap H locs → lv_has ls 2 [(0, .ref (gAd G 6)), (1, .int a1)] → W p l e rm_X1_writeDownTo s m args below meth c H locs 0 0 (QV cwl 40 G below args s Φ) (F0 m 0 ls []) := by
  intro n
  induction n with
  | zero => intro _ _ _ _ _ hq; exact hq.elim
  | succ n ih => intro _ _ _ _ _ hq hw hl; exact tb_X1_writeDownTo_b0 hE hml hr hlk  ih hq hw hl
set_option maxRecDepth 20000 in
set_option maxHeartbeats 4000000 in
theorem c_X1_writeDownTo {G : GG} (hJ : gJ 40 G) (l : Launch) (a1 : Int32) (σ : S9) (Φ : S9 → Prop) (hq : wp_X1_writeDownTo a1 σ Φ) : CV cwl 40 G l yX1_writeDownTo cX1_writeDownTo 2 rm_X1_writeDownTo [.ref (gAd G 6), .int a1] σ Φ := by
  refine CV.intro (by decide) (Nat.le_of_ble_eq_true rfl) hJ ?_
  intro p e s m args below meth c ls hE hml hr hlk hw hl
  have hl : lv_has ls 2 [(0, .ref (gAd G 6)), (1, .int a1)] := hl
  unfold wp_X1_writeDownTo at hq
  obtain ⟨nn, hq⟩ := hq
  exact tl_X1_writeDownTo_b0 hE hml hr hlk  nn _ _ _ _ _ hq hw (lv_sub hl [0, 1] rfl)
/-! QueueBench$Expression.holds(CI)Z -/
abbrev rm_X1_holds : Room := { frames := 0, cells := 0, slots := 0, locals := 0 }
def wp_X1_holds (a1 : Int32) (a2 : Int32) (σ : S9) (Φ : Int32 → S9 → Prop) : Prop := ((σ.1 13) = (120 : Int32) → Φ (0 : Int32) σ) ∧ (¬ (σ.1 13) = (120 : Int32) → vp_in (σ.1 13) 120 ∧ ∀ σ1 : S9, σ1 = sA σ 17 (upd (σ.2.1 17) ((σ.1 13)).toNatClampNeg (vp_nar .char a1)) → vp_in (σ1.1 13) 120 ∧ ∀ σ2 : S9, σ2 = sA σ1 18 (upd (σ1.2.1 18) ((σ1.1 13)).toNatClampNeg a2) → ∀ σ3 : S9, σ3 = sF σ2 13 ((σ2.1 13) + (1 : Int32)) → Φ (1 : Int32) σ3)
theorem dX1_holds_0 : decode cX1_holds 0 = .ok (.aload_n 0, 1) := by decide +kernel
theorem dX1_holds_1 : decode cX1_holds 1 = .ok (.getfield 27, 3) := by decide +kernel
theorem dX1_holds_4 : decode cX1_holds 4 = .ok (.bipush 120, 2) := by decide +kernel
theorem dX1_holds_6 : decode cX1_holds 6 = .ok (.if_icmp .ne 5, 3) := by decide +kernel
theorem dX1_holds_9 : decode cX1_holds 9 = .ok (.iconst 0, 1) := by decide +kernel
theorem dX1_holds_10 : decode cX1_holds 10 = .ok (.ireturn, 1) := by decide +kernel
theorem dX1_holds_11 : decode cX1_holds 11 = .ok (.aload_n 0, 1) := by decide +kernel
theorem dX1_holds_12 : decode cX1_holds 12 = .ok (.getfield 11, 3) := by decide +kernel
theorem dX1_holds_15 : decode cX1_holds 15 = .ok (.aload_n 0, 1) := by decide +kernel
theorem dX1_holds_16 : decode cX1_holds 16 = .ok (.getfield 27, 3) := by decide +kernel
theorem dX1_holds_19 : decode cX1_holds 19 = .ok (.iload_n 1, 1) := by decide +kernel
theorem dX1_holds_20 : decode cX1_holds 20 = .ok (.castore, 1) := by decide +kernel
theorem dX1_holds_21 : decode cX1_holds 21 = .ok (.aload_n 0, 1) := by decide +kernel
theorem dX1_holds_22 : decode cX1_holds 22 = .ok (.getfield 15, 3) := by decide +kernel
theorem dX1_holds_25 : decode cX1_holds 25 = .ok (.aload_n 0, 1) := by decide +kernel
theorem dX1_holds_26 : decode cX1_holds 26 = .ok (.getfield 27, 3) := by decide +kernel
theorem dX1_holds_29 : decode cX1_holds 29 = .ok (.iload_n 2, 1) := by decide +kernel
theorem dX1_holds_30 : decode cX1_holds 30 = .ok (.iastore, 1) := by decide +kernel
theorem dX1_holds_31 : decode cX1_holds 31 = .ok (.aload_n 0, 1) := by decide +kernel
theorem dX1_holds_32 : decode cX1_holds 32 = .ok (.dup, 1) := by decide +kernel
theorem dX1_holds_33 : decode cX1_holds 33 = .ok (.getfield 27, 3) := by decide +kernel
theorem dX1_holds_36 : decode cX1_holds 36 = .ok (.iconst 1, 1) := by decide +kernel
theorem dX1_holds_37 : decode cX1_holds 37 = .ok (.iadd, 1) := by decide +kernel
theorem dX1_holds_38 : decode cX1_holds 38 = .ok (.putfield 27, 3) := by decide +kernel
theorem dX1_holds_41 : decode cX1_holds 41 = .ok (.iconst 1, 1) := by decide +kernel
theorem dX1_holds_42 : decode cX1_holds 42 = .ok (.ireturn, 1) := by decide +kernel
set_option maxRecDepth 20000 in
set_option maxHeartbeats 4000000 in
theorem c_X1_holds {G : GG} (hJ : gJ 40 G) (l : Launch) (a1 : Int32) (a2 : Int32) (σ : S9) (Φ : Int32 → S9 → Prop) (hq : wp_X1_holds a1 a2 σ Φ) : CI cwl 40 G l yX1_holds cX1_holds 3 (some .boolean) rm_X1_holds [.ref (gAd G 6), .int a1, .int a2] σ Φ := by
  refine CI.intro (by decide) (Nat.le_of_ble_eq_true rfl) hJ ?_
  intro p e s m args below meth c ls hE hml hr hlk hw hl
  have hl : lv_has ls 3 [(0, .ref (gAd G 6)), (1, .int a1), (2, .int a2)] := hl
  unfold wp_X1_holds at hq
  refine lv_aload_n hE.1 hE.2.1 dX1_holds_0 rfl (lv_at hl 0 rfl) ?_
  refine cgf_X1_27 hE hw dX1_holds_1 ?_
  refine lv_bipush (v := (120 : Int32)) hE.1 hE.2.1 dX1_holds_4 (by decide) ?_
  refine lv_icmp_ne (tgt := 11) hE.1 hE.2.1 dX1_holds_6 (by decide) (fun c1 => ?_) (fun c1 => ?_)
  · have hq := hq.2 c1
    refine lv_aload_n hE.1 hE.2.1 dX1_holds_11 rfl (lv_at hl 0 rfl) ?_
    refine cgf_X1_11 hE hw dX1_holds_12 ?_
    refine lv_aload_n hE.1 hE.2.1 dX1_holds_15 rfl (lv_at hl 0 rfl) ?_
    refine cgf_X1_27 hE hw dX1_holds_16 ?_
    refine lv_iload_n hE.1 hE.2.1 dX1_holds_19 rfl (lv_at hl 1 rfl) ?_
    obtain ⟨hi2, hq⟩ := hq
    refine cas_29 hE hw hi2 dX1_holds_20 (fun σ1 eσ1 H locs hw => ?_)
    have hq := hq σ1 eσ1
    refine lv_aload_n hE.1 hE.2.1 dX1_holds_21 rfl (lv_at hl 0 rfl) ?_
    refine cgf_X1_15 hE hw dX1_holds_22 ?_
    refine lv_aload_n hE.1 hE.2.1 dX1_holds_25 rfl (lv_at hl 0 rfl) ?_
    refine cgf_X1_27 hE hw dX1_holds_26 ?_
    refine lv_iload_n hE.1 hE.2.1 dX1_holds_29 rfl (lv_at hl 2 rfl) ?_
    obtain ⟨hi3, hq⟩ := hq
    refine cas_30 hE hw hi3 dX1_holds_30 (fun σ2 eσ2 H locs hw => ?_)
    have hq := hq σ2 eσ2
    refine lv_aload_n hE.1 hE.2.1 dX1_holds_31 rfl (lv_at hl 0 rfl) ?_
    refine lv_dup hE.1 hE.2.1 dX1_holds_32 rfl ?_
    refine cgf_X1_27 hE hw dX1_holds_33 ?_
    refine lv_iconst (v := (1 : Int32)) hE.1 hE.2.1 dX1_holds_36 (by decide) ?_
    refine lv_iadd hE.1 hE.2.1 dX1_holds_37 ?_
    refine cpf_X1_27 hE hw dX1_holds_38 (fun σ3 eσ3 H locs hw => ?_)
    have hq := hq σ3 eσ3
    refine lv_iconst (v := (1 : Int32)) hE.1 hE.2.1 dX1_holds_41 (by decide) ?_
    exact rtZ hE hr hlk rfl hw hq dX1_holds_42
  · have hq := hq.1 c1
    refine lv_iconst (v := (0 : Int32)) hE.1 hE.2.1 dX1_holds_9 (by decide) ?_
    exact rtZ hE hr hlk rfl hw hq dX1_holds_10
/-! QueueBench$Expression.takesSign(CI)Z -/
abbrev rm_X1_takesSign : Room := { frames := 2, cells := 0, slots := 0, locals := 44 }
def wp_X1_takesSign (a1 : Int32) (a2 : Int32) (σ : S9) (Φ : Int32 → S9 → Prop) : Prop := wp_X1_writeDownTo a2 σ (fun σ1 => ∀ σ2 : S9, σ2 = sF σ1 16 (1 : Int32) → wp_X1_holds a1 a2 σ2 (fun r1 σ3 => narrow .boolean (.int r1) = .int r1 ∧ Φ r1 σ3))
theorem dX1_takesSign_0 : decode cX1_takesSign 0 = .ok (.aload_n 0, 1) := by decide +kernel
theorem dX1_takesSign_1 : decode cX1_takesSign 1 = .ok (.iload_n 2, 1) := by decide +kernel
theorem dX1_takesSign_2 : decode cX1_takesSign 2 = .ok (.invokevirtual 41, 3) := by decide +kernel
theorem dX1_takesSign_5 : decode cX1_takesSign 5 = .ok (.aload_n 0, 1) := by decide +kernel
theorem dX1_takesSign_6 : decode cX1_takesSign 6 = .ok (.iconst 1, 1) := by decide +kernel
theorem dX1_takesSign_7 : decode cX1_takesSign 7 = .ok (.putfield 37, 3) := by decide +kernel
theorem dX1_takesSign_10 : decode cX1_takesSign 10 = .ok (.aload_n 0, 1) := by decide +kernel
theorem dX1_takesSign_11 : decode cX1_takesSign 11 = .ok (.iload_n 1, 1) := by decide +kernel
theorem dX1_takesSign_12 : decode cX1_takesSign 12 = .ok (.iload_n 2, 1) := by decide +kernel
theorem dX1_takesSign_13 : decode cX1_takesSign 13 = .ok (.invokevirtual 52, 3) := by decide +kernel
theorem dX1_takesSign_16 : decode cX1_takesSign 16 = .ok (.ireturn, 1) := by decide +kernel
set_option maxRecDepth 20000 in
set_option maxHeartbeats 4000000 in
theorem c_X1_takesSign {G : GG} (hJ : gJ 40 G) (l : Launch) (a1 : Int32) (a2 : Int32) (σ : S9) (Φ : Int32 → S9 → Prop) (hq : wp_X1_takesSign a1 a2 σ Φ) : CI cwl 40 G l yX1_takesSign cX1_takesSign 3 (some .boolean) rm_X1_takesSign [.ref (gAd G 6), .int a1, .int a2] σ Φ := by
  refine CI.intro (by decide) (Nat.le_of_ble_eq_true rfl) hJ ?_
  intro p e s m args below meth c ls hE hml hr hlk hw hl
  have hl : lv_has ls 3 [(0, .ref (gAd G 6)), (1, .int a1), (2, .int a2)] := hl
  unfold wp_X1_takesSign at hq
  refine lv_aload_n hE.1 hE.2.1 dX1_takesSign_0 rfl (lv_at hl 0 rfl) ?_
  refine lv_iload_n hE.1 hE.2.1 dX1_takesSign_1 rfl (lv_at hl 2 rfl) ?_
  refine clVv (rest := []) (As := [.int a2]) hE hml hl.1 hw (c_X1_writeDownTo hE.2.2.2.2.2 l _ _ _ hq) cu262 cu263 cu264 cu265 cu213 rfl (k := 1) (by decide +kernel) (by decide) (ci := 1) rfl (q0 := 6) rfl rfl rfl (Nat.le_of_ble_eq_true rfl) dX1_takesSign_2 (by decide) (fun σ1 hq H locs hw => ?_)
  refine lv_aload_n hE.1 hE.2.1 dX1_takesSign_5 rfl (lv_at hl 0 rfl) ?_
  refine lv_iconst (v := (1 : Int32)) hE.1 hE.2.1 dX1_takesSign_6 (by decide) ?_
  refine cpf_X1_37 hE hw rfl (by decide) dX1_takesSign_7 (fun σ2 eσ2 H locs hw => ?_)
  have hq := hq σ2 eσ2
  refine lv_aload_n hE.1 hE.2.1 dX1_takesSign_10 rfl (lv_at hl 0 rfl) ?_
  refine lv_iload_n hE.1 hE.2.1 dX1_takesSign_11 rfl (lv_at hl 1 rfl) ?_
  refine lv_iload_n hE.1 hE.2.1 dX1_takesSign_12 rfl (lv_at hl 2 rfl) ?_
  refine clVi (rest := []) (As := [.int a1, .int a2]) hE hml hl.1 hw (c_X1_holds hE.2.2.2.2.2 l _ _ _ _ hq) cu266 cu267 cu268 cu269 cu213 rfl (k := 2) (by decide +kernel) (by decide) (ci := 1) rfl (q0 := 6) rfl rfl rfl (Nat.le_of_ble_eq_true rfl) dX1_takesSign_13 (by decide) (fun r1 σ3 hq H locs hw => ?_)
  exact rtZ hE hr hlk hq.1 hw hq.2 dX1_takesSign_16
/-! QueueBench$Expression.closesParenthesis()Z -/
abbrev rm_X1_closesParenthesis : Room := { frames := 2, cells := 0, slots := 0, locals := 44 }
def wp_X1_closesParenthesis  (σ : S9) (Φ : Int32 → S9 → Prop) : Prop := ((σ.1 14) = 0 → Φ (0 : Int32) σ) ∧ (¬ (σ.1 14) = 0 → wp_X1_writeDownTo (1 : Int32) σ (fun σ1 => ∀ σ2 : S9, σ2 = sF σ1 13 ((σ1.1 13) - (1 : Int32)) → ∀ σ3 : S9, σ3 = sF σ2 14 ((σ2.1 14) - (1 : Int32)) → Φ (1 : Int32) σ3))
theorem dX1_closesParenthesis_0 : decode cX1_closesParenthesis 0 = .ok (.aload_n 0, 1) := by decide +kernel
theorem dX1_closesParenthesis_1 : decode cX1_closesParenthesis 1 = .ok (.getfield 31, 3) := by decide +kernel
theorem dX1_closesParenthesis_4 : decode cX1_closesParenthesis 4 = .ok (.ifCond .ne 5, 3) := by decide +kernel
theorem dX1_closesParenthesis_7 : decode cX1_closesParenthesis 7 = .ok (.iconst 0, 1) := by decide +kernel
theorem dX1_closesParenthesis_8 : decode cX1_closesParenthesis 8 = .ok (.ireturn, 1) := by decide +kernel
theorem dX1_closesParenthesis_9 : decode cX1_closesParenthesis 9 = .ok (.aload_n 0, 1) := by decide +kernel
theorem dX1_closesParenthesis_10 : decode cX1_closesParenthesis 10 = .ok (.iconst 1, 1) := by decide +kernel
theorem dX1_closesParenthesis_11 : decode cX1_closesParenthesis 11 = .ok (.invokevirtual 41, 3) := by decide +kernel
theorem dX1_closesParenthesis_14 : decode cX1_closesParenthesis 14 = .ok (.aload_n 0, 1) := by decide +kernel
theorem dX1_closesParenthesis_15 : decode cX1_closesParenthesis 15 = .ok (.dup, 1) := by decide +kernel
theorem dX1_closesParenthesis_16 : decode cX1_closesParenthesis 16 = .ok (.getfield 27, 3) := by decide +kernel
theorem dX1_closesParenthesis_19 : decode cX1_closesParenthesis 19 = .ok (.iconst 1, 1) := by decide +kernel
theorem dX1_closesParenthesis_20 : decode cX1_closesParenthesis 20 = .ok (.isub, 1) := by decide +kernel
theorem dX1_closesParenthesis_21 : decode cX1_closesParenthesis 21 = .ok (.putfield 27, 3) := by decide +kernel
theorem dX1_closesParenthesis_24 : decode cX1_closesParenthesis 24 = .ok (.aload_n 0, 1) := by decide +kernel
theorem dX1_closesParenthesis_25 : decode cX1_closesParenthesis 25 = .ok (.dup, 1) := by decide +kernel
theorem dX1_closesParenthesis_26 : decode cX1_closesParenthesis 26 = .ok (.getfield 31, 3) := by decide +kernel
theorem dX1_closesParenthesis_29 : decode cX1_closesParenthesis 29 = .ok (.iconst 1, 1) := by decide +kernel
theorem dX1_closesParenthesis_30 : decode cX1_closesParenthesis 30 = .ok (.isub, 1) := by decide +kernel
theorem dX1_closesParenthesis_31 : decode cX1_closesParenthesis 31 = .ok (.putfield 31, 3) := by decide +kernel
theorem dX1_closesParenthesis_34 : decode cX1_closesParenthesis 34 = .ok (.iconst 1, 1) := by decide +kernel
theorem dX1_closesParenthesis_35 : decode cX1_closesParenthesis 35 = .ok (.ireturn, 1) := by decide +kernel
set_option maxRecDepth 20000 in
set_option maxHeartbeats 4000000 in
theorem c_X1_closesParenthesis {G : GG} (hJ : gJ 40 G) (l : Launch)  (σ : S9) (Φ : Int32 → S9 → Prop) (hq : wp_X1_closesParenthesis  σ Φ) : CI cwl 40 G l yX1_closesParenthesis cX1_closesParenthesis 1 (some .boolean) rm_X1_closesParenthesis [.ref (gAd G 6)] σ Φ := by
  refine CI.intro (by decide) (Nat.le_of_ble_eq_true rfl) hJ ?_
  intro p e s m args below meth c ls hE hml hr hlk hw hl
  have hl : lv_has ls 1 [(0, .ref (gAd G 6))] := hl
  unfold wp_X1_closesParenthesis at hq
  refine lv_aload_n hE.1 hE.2.1 dX1_closesParenthesis_0 rfl (lv_at hl 0 rfl) ?_
  refine cgf_X1_31 hE hw dX1_closesParenthesis_1 ?_
  refine lv_if_ne (tgt := 9) hE.1 hE.2.1 dX1_closesParenthesis_4 (by decide) (fun c1 => ?_) (fun c1 => ?_)
  · have hq := hq.2 c1
    refine lv_aload_n hE.1 hE.2.1 dX1_closesParenthesis_9 rfl (lv_at hl 0 rfl) ?_
    refine lv_iconst (v := (1 : Int32)) hE.1 hE.2.1 dX1_closesParenthesis_10 (by decide) ?_
    refine clVv (rest := []) (As := [.int (1 : Int32)]) hE hml hl.1 hw (c_X1_writeDownTo hE.2.2.2.2.2 l _ _ _ hq) cu262 cu263 cu264 cu265 cu213 rfl (k := 1) (by decide +kernel) (by decide) (ci := 1) rfl (q0 := 6) rfl rfl rfl (Nat.le_of_ble_eq_true rfl) dX1_closesParenthesis_11 (by decide) (fun σ1 hq H locs hw => ?_)
    refine lv_aload_n hE.1 hE.2.1 dX1_closesParenthesis_14 rfl (lv_at hl 0 rfl) ?_
    refine lv_dup hE.1 hE.2.1 dX1_closesParenthesis_15 rfl ?_
    refine cgf_X1_27 hE hw dX1_closesParenthesis_16 ?_
    refine lv_iconst (v := (1 : Int32)) hE.1 hE.2.1 dX1_closesParenthesis_19 (by decide) ?_
    refine lv_isub hE.1 hE.2.1 dX1_closesParenthesis_20 ?_
    refine cpf_X1_27 hE hw dX1_closesParenthesis_21 (fun σ2 eσ2 H locs hw => ?_)
    have hq := hq σ2 eσ2
    refine lv_aload_n hE.1 hE.2.1 dX1_closesParenthesis_24 rfl (lv_at hl 0 rfl) ?_
    refine lv_dup hE.1 hE.2.1 dX1_closesParenthesis_25 rfl ?_
    refine cgf_X1_31 hE hw dX1_closesParenthesis_26 ?_
    refine lv_iconst (v := (1 : Int32)) hE.1 hE.2.1 dX1_closesParenthesis_29 (by decide) ?_
    refine lv_isub hE.1 hE.2.1 dX1_closesParenthesis_30 ?_
    refine cpf_X1_31 hE hw dX1_closesParenthesis_31 (fun σ3 eσ3 H locs hw => ?_)
    have hq := hq σ3 eσ3
    refine lv_iconst (v := (1 : Int32)) hE.1 hE.2.1 dX1_closesParenthesis_34 (by decide) ?_
    exact rtZ hE hr hlk rfl hw hq dX1_closesParenthesis_35
  · have hq := hq.1 c1
    refine lv_iconst (v := (0 : Int32)) hE.1 hE.2.1 dX1_closesParenthesis_7 (by decide) ?_
    exact rtZ hE hr hlk rfl hw hq dX1_closesParenthesis_8
/-! QueueBench$Expression.comparisonWaits()Z -/
abbrev rm_X1_comparisonWaits : Room := { frames := 0, cells := 0, slots := 0, locals := 0 }
def wp_X1_comparisonWaits  (σ : S9) (Φ : Int32 → S9 → Prop) : Prop := ((σ.1 13) ≤ 0 → Φ (0 : Int32) σ) ∧ (¬ (σ.1 13) ≤ 0 → vp_in ((σ.1 13) - (1 : Int32)) 120 ∧ ((σ.2.1 18 (((σ.1 13) - (1 : Int32))).toNatClampNeg) = (1 : Int32) → Φ (1 : Int32) σ) ∧ (¬ (σ.2.1 18 (((σ.1 13) - (1 : Int32))).toNatClampNeg) = (1 : Int32) → Φ (0 : Int32) σ))
theorem dX1_comparisonWaits_0 : decode cX1_comparisonWaits 0 = .ok (.aload_n 0, 1) := by decide +kernel
theorem dX1_comparisonWaits_1 : decode cX1_comparisonWaits 1 = .ok (.getfield 27, 3) := by decide +kernel
theorem dX1_comparisonWaits_4 : decode cX1_comparisonWaits 4 = .ok (.ifCond .le 22, 3) := by decide +kernel
theorem dX1_comparisonWaits_7 : decode cX1_comparisonWaits 7 = .ok (.aload_n 0, 1) := by decide +kernel
theorem dX1_comparisonWaits_8 : decode cX1_comparisonWaits 8 = .ok (.getfield 15, 3) := by decide +kernel
theorem dX1_comparisonWaits_11 : decode cX1_comparisonWaits 11 = .ok (.aload_n 0, 1) := by decide +kernel
theorem dX1_comparisonWaits_12 : decode cX1_comparisonWaits 12 = .ok (.getfield 27, 3) := by decide +kernel
theorem dX1_comparisonWaits_15 : decode cX1_comparisonWaits 15 = .ok (.iconst 1, 1) := by decide +kernel
theorem dX1_comparisonWaits_16 : decode cX1_comparisonWaits 16 = .ok (.isub, 1) := by decide +kernel
theorem dX1_comparisonWaits_17 : decode cX1_comparisonWaits 17 = .ok (.iaload, 1) := by decide +kernel
theorem dX1_comparisonWaits_18 : decode cX1_comparisonWaits 18 = .ok (.iconst 1, 1) := by decide +kernel
theorem dX1_comparisonWaits_19 : decode cX1_comparisonWaits 19 = .ok (.if_icmp .ne 7, 3) := by decide +kernel
theorem dX1_comparisonWaits_22 : decode cX1_comparisonWaits 22 = .ok (.iconst 1, 1) := by decide +kernel
theorem dX1_comparisonWaits_23 : decode cX1_comparisonWaits 23 = .ok (.goto 4, 3) := by decide +kernel
theorem dX1_comparisonWaits_26 : decode cX1_comparisonWaits 26 = .ok (.iconst 0, 1) := by decide +kernel
theorem dX1_comparisonWaits_27 : decode cX1_comparisonWaits 27 = .ok (.ireturn, 1) := by decide +kernel
set_option maxRecDepth 20000 in
set_option maxHeartbeats 4000000 in
theorem c_X1_comparisonWaits {G : GG} (hJ : gJ 40 G) (l : Launch)  (σ : S9) (Φ : Int32 → S9 → Prop) (hq : wp_X1_comparisonWaits  σ Φ) : CI cwl 40 G l yX1_comparisonWaits cX1_comparisonWaits 1 (some .boolean) rm_X1_comparisonWaits [.ref (gAd G 6)] σ Φ := by
  refine CI.intro (by decide) (Nat.le_of_ble_eq_true rfl) hJ ?_
  intro p e s m args below meth c ls hE hml hr hlk hw hl
  have hl : lv_has ls 1 [(0, .ref (gAd G 6))] := hl
  unfold wp_X1_comparisonWaits at hq
  refine lv_aload_n hE.1 hE.2.1 dX1_comparisonWaits_0 rfl (lv_at hl 0 rfl) ?_
  refine cgf_X1_27 hE hw dX1_comparisonWaits_1 ?_
  refine lv_if_le (tgt := 26) hE.1 hE.2.1 dX1_comparisonWaits_4 (by decide) (fun c1 => ?_) (fun c1 => ?_)
  · have hq := hq.1 c1
    refine lv_iconst (v := (0 : Int32)) hE.1 hE.2.1 dX1_comparisonWaits_26 (by decide) ?_
    exact rtZ hE hr hlk rfl hw hq dX1_comparisonWaits_27
  · have hq := hq.2 c1
    refine lv_aload_n hE.1 hE.2.1 dX1_comparisonWaits_7 rfl (lv_at hl 0 rfl) ?_
    refine cgf_X1_15 hE hw dX1_comparisonWaits_8 ?_
    refine lv_aload_n hE.1 hE.2.1 dX1_comparisonWaits_11 rfl (lv_at hl 0 rfl) ?_
    refine cgf_X1_27 hE hw dX1_comparisonWaits_12 ?_
    refine lv_iconst (v := (1 : Int32)) hE.1 hE.2.1 dX1_comparisonWaits_15 (by decide) ?_
    refine lv_isub hE.1 hE.2.1 dX1_comparisonWaits_16 ?_
    obtain ⟨hi2, hq⟩ := hq
    refine cal_30 hE hw hi2 dX1_comparisonWaits_17 ?_
    refine lv_iconst (v := (1 : Int32)) hE.1 hE.2.1 dX1_comparisonWaits_18 (by decide) ?_
    refine lv_icmp_ne (tgt := 26) hE.1 hE.2.1 dX1_comparisonWaits_19 (by decide) (fun c3 => ?_) (fun c3 => ?_)
    · have hq := hq.2 c3
      refine lv_iconst (v := (0 : Int32)) hE.1 hE.2.1 dX1_comparisonWaits_26 (by decide) ?_
      exact rtZ hE hr hlk rfl hw hq dX1_comparisonWaits_27
    · have hq := hq.1 c3
      refine lv_iconst (v := (1 : Int32)) hE.1 hE.2.1 dX1_comparisonWaits_22 (by decide) ?_
      refine lv_goto (tgt := 27) hE.1 hE.2.1 dX1_comparisonWaits_23 (by decide) ?_
      exact rtZ hE hr hlk rfl hw hq dX1_comparisonWaits_27
/-! QueueBench$Expression.takesOperator(C)Z -/
abbrev rm_X1_takesOperator : Room := { frames := 3, cells := 0, slots := 0, locals := 66 }
def wp_X1_takesOperator (a1 : Int32) (σ : S9) (Φ : Int32 → S9 → Prop) : Prop := (a1 = (37 : Int32) → wp_X1_takesSign a1 (3 : Int32) σ (fun r2 σ1 => narrow .boolean (.int r2) = .int r2 ∧ Φ r2 σ1)) ∧ (¬ a1 = (37 : Int32) → (a1 = (41 : Int32) → wp_X1_closesParenthesis σ (fun r4 σ2 => narrow .boolean (.int r4) = .int r4 ∧ Φ r4 σ2)) ∧ (¬ a1 = (41 : Int32) → (a1 = (42 : Int32) → wp_X1_takesSign a1 (3 : Int32) σ (fun r6 σ3 => narrow .boolean (.int r6) = .int r6 ∧ Φ r6 σ3)) ∧ (¬ a1 = (42 : Int32) → (a1 = (43 : Int32) → wp_X1_takesSign a1 (2 : Int32) σ (fun r8 σ4 => narrow .boolean (.int r8) = .int r8 ∧ Φ r8 σ4)) ∧ (¬ a1 = (43 : Int32) → (a1 = (45 : Int32) → wp_X1_takesSign a1 (2 : Int32) σ (fun r10 σ5 => narrow .boolean (.int r10) = .int r10 ∧ Φ r10 σ5)) ∧ (¬ a1 = (45 : Int32) → (a1 = (47 : Int32) → wp_X1_takesSign a1 (3 : Int32) σ (fun r12 σ6 => narrow .boolean (.int r12) = .int r12 ∧ Φ r12 σ6)) ∧ (¬ a1 = (47 : Int32) → (a1 = (60 : Int32) → wp_X1_writeDownTo (2 : Int32) σ (fun σ7 => wp_X1_comparisonWaits σ7 (fun r14 σ8 => (r14 = 0 → wp_X1_takesSign a1 (1 : Int32) σ8 (fun r16 σ9 => (r16 = 0 → Φ (0 : Int32) σ9) ∧ (¬ r16 = 0 → Φ (1 : Int32) σ9))) ∧ (¬ r14 = 0 → Φ (0 : Int32) σ8)))) ∧ (¬ a1 = (60 : Int32) → (a1 = (61 : Int32) → wp_X1_writeDownTo (2 : Int32) σ (fun σ10 => wp_X1_comparisonWaits σ10 (fun r19 σ11 => (r19 = 0 → wp_X1_takesSign a1 (1 : Int32) σ11 (fun r21 σ12 => (r21 = 0 → Φ (0 : Int32) σ12) ∧ (¬ r21 = 0 → Φ (1 : Int32) σ12))) ∧ (¬ r19 = 0 → Φ (0 : Int32) σ11)))) ∧ (¬ a1 = (61 : Int32) → Φ (0 : Int32) σ))))))))
theorem dX1_takesOperator_0 : decode cX1_takesOperator 0 = .ok (.iload_n 1, 1) := by decide +kernel
theorem dX1_takesOperator_1 : decode cX1_takesOperator 1 = .ok (.tableswitch 161 37 61 #[115, 161, 161, 161, 156, 115, 122, 161, 122, 161, 115, 161, 161, 161, 161, 161, 161, 161, 161, 161, 161, 161, 161, 129, 129], 115) := by decide +kernel
theorem dX1_takesOperator_116 : decode cX1_takesOperator 116 = .ok (.aload_n 0, 1) := by decide +kernel
theorem dX1_takesOperator_117 : decode cX1_takesOperator 117 = .ok (.iload_n 1, 1) := by decide +kernel
theorem dX1_takesOperator_118 : decode cX1_takesOperator 118 = .ok (.iconst 3, 1) := by decide +kernel
theorem dX1_takesOperator_119 : decode cX1_takesOperator 119 = .ok (.invokevirtual 81, 3) := by decide +kernel
theorem dX1_takesOperator_122 : decode cX1_takesOperator 122 = .ok (.ireturn, 1) := by decide +kernel
theorem dX1_takesOperator_123 : decode cX1_takesOperator 123 = .ok (.aload_n 0, 1) := by decide +kernel
theorem dX1_takesOperator_124 : decode cX1_takesOperator 124 = .ok (.iload_n 1, 1) := by decide +kernel
theorem dX1_takesOperator_125 : decode cX1_takesOperator 125 = .ok (.iconst 2, 1) := by decide +kernel
theorem dX1_takesOperator_126 : decode cX1_takesOperator 126 = .ok (.invokevirtual 81, 3) := by decide +kernel
theorem dX1_takesOperator_129 : decode cX1_takesOperator 129 = .ok (.ireturn, 1) := by decide +kernel
theorem dX1_takesOperator_130 : decode cX1_takesOperator 130 = .ok (.aload_n 0, 1) := by decide +kernel
theorem dX1_takesOperator_131 : decode cX1_takesOperator 131 = .ok (.iconst 2, 1) := by decide +kernel
theorem dX1_takesOperator_132 : decode cX1_takesOperator 132 = .ok (.invokevirtual 41, 3) := by decide +kernel
theorem dX1_takesOperator_135 : decode cX1_takesOperator 135 = .ok (.aload_n 0, 1) := by decide +kernel
theorem dX1_takesOperator_136 : decode cX1_takesOperator 136 = .ok (.invokevirtual 84, 3) := by decide +kernel
theorem dX1_takesOperator_139 : decode cX1_takesOperator 139 = .ok (.ifCond .ne 16, 3) := by decide +kernel
theorem dX1_takesOperator_142 : decode cX1_takesOperator 142 = .ok (.aload_n 0, 1) := by decide +kernel
theorem dX1_takesOperator_143 : decode cX1_takesOperator 143 = .ok (.iload_n 1, 1) := by decide +kernel
theorem dX1_takesOperator_144 : decode cX1_takesOperator 144 = .ok (.iconst 1, 1) := by decide +kernel
theorem dX1_takesOperator_145 : decode cX1_takesOperator 145 = .ok (.invokevirtual 81, 3) := by decide +kernel
theorem dX1_takesOperator_148 : decode cX1_takesOperator 148 = .ok (.ifCond .eq 7, 3) := by decide +kernel
theorem dX1_takesOperator_151 : decode cX1_takesOperator 151 = .ok (.iconst 1, 1) := by decide +kernel
theorem dX1_takesOperator_152 : decode cX1_takesOperator 152 = .ok (.goto 4, 3) := by decide +kernel
theorem dX1_takesOperator_155 : decode cX1_takesOperator 155 = .ok (.iconst 0, 1) := by decide +kernel
theorem dX1_takesOperator_156 : decode cX1_takesOperator 156 = .ok (.ireturn, 1) := by decide +kernel
theorem dX1_takesOperator_157 : decode cX1_takesOperator 157 = .ok (.aload_n 0, 1) := by decide +kernel
theorem dX1_takesOperator_158 : decode cX1_takesOperator 158 = .ok (.invokevirtual 87, 3) := by decide +kernel
theorem dX1_takesOperator_161 : decode cX1_takesOperator 161 = .ok (.ireturn, 1) := by decide +kernel
theorem dX1_takesOperator_162 : decode cX1_takesOperator 162 = .ok (.iconst 0, 1) := by decide +kernel
theorem dX1_takesOperator_163 : decode cX1_takesOperator 163 = .ok (.ireturn, 1) := by decide +kernel
set_option maxRecDepth 20000 in
set_option maxHeartbeats 4000000 in
theorem c_X1_takesOperator {G : GG} (hJ : gJ 40 G) (l : Launch) (a1 : Int32) (σ : S9) (Φ : Int32 → S9 → Prop) (hq : wp_X1_takesOperator a1 σ Φ) : CI cwl 40 G l yX1_takesOperator cX1_takesOperator 2 (some .boolean) rm_X1_takesOperator [.ref (gAd G 6), .int a1] σ Φ := by
  refine CI.intro (by decide) (Nat.le_of_ble_eq_true rfl) hJ ?_
  intro p e s m args below meth c ls hE hml hr hlk hw hl
  have hl : lv_has ls 2 [(0, .ref (gAd G 6)), (1, .int a1)] := hl
  unfold wp_X1_takesOperator at hq
  refine lv_iload_n hE.1 hE.2.1 dX1_takesOperator_0 rfl (lv_at hl 1 rfl) ?_
  by_cases c1 : a1 = (37 : Int32)
  · have hq := hq.1 c1
    refine lv_tableH (off := 115) (tgt := 116) hE.1 hE.2.1 dX1_takesOperator_1 c1 (by decide) (by decide) (by decide) (by decide) ?_
    refine lv_aload_n hE.1 hE.2.1 dX1_takesOperator_116 rfl (lv_at hl 0 rfl) ?_
    refine lv_iload_n hE.1 hE.2.1 dX1_takesOperator_117 rfl (lv_at hl 1 rfl) ?_
    refine lv_iconst (v := (3 : Int32)) hE.1 hE.2.1 dX1_takesOperator_118 (by decide) ?_
    refine clVi (rest := []) (As := [.int a1, .int (3 : Int32)]) hE hml hl.1 hw (c_X1_takesSign hE.2.2.2.2.2 l _ _ _ _ hq) cu270 cu271 cu272 cu273 cu213 rfl (k := 2) (by decide +kernel) (by decide) (ci := 1) rfl (q0 := 6) rfl rfl rfl (Nat.le_of_ble_eq_true rfl) dX1_takesOperator_119 (by decide) (fun r2 σ1 hq H locs hw => ?_)
    exact rtZ hE hr hlk hq.1 hw hq.2 dX1_takesOperator_122
  · have hq := hq.2 c1
    by_cases c3 : a1 = (41 : Int32)
    · have hq := hq.1 c3
      refine lv_tableH (off := 156) (tgt := 157) hE.1 hE.2.1 dX1_takesOperator_1 c3 (by decide) (by decide) (by decide) (by decide) ?_
      refine lv_aload_n hE.1 hE.2.1 dX1_takesOperator_157 rfl (lv_at hl 0 rfl) ?_
      refine clVi (rest := []) (As := []) hE hml hl.1 hw (c_X1_closesParenthesis hE.2.2.2.2.2 l _ _ hq) cu274 cu275 cu276 cu277 cu213 rfl (k := 0) (by decide +kernel) (by decide) (ci := 1) rfl (q0 := 6) rfl rfl rfl (Nat.le_of_ble_eq_true rfl) dX1_takesOperator_158 (by decide) (fun r4 σ2 hq H locs hw => ?_)
      exact rtZ hE hr hlk hq.1 hw hq.2 dX1_takesOperator_161
    · have hq := hq.2 c3
      by_cases c5 : a1 = (42 : Int32)
      · have hq := hq.1 c5
        refine lv_tableH (off := 115) (tgt := 116) hE.1 hE.2.1 dX1_takesOperator_1 c5 (by decide) (by decide) (by decide) (by decide) ?_
        refine lv_aload_n hE.1 hE.2.1 dX1_takesOperator_116 rfl (lv_at hl 0 rfl) ?_
        refine lv_iload_n hE.1 hE.2.1 dX1_takesOperator_117 rfl (lv_at hl 1 rfl) ?_
        refine lv_iconst (v := (3 : Int32)) hE.1 hE.2.1 dX1_takesOperator_118 (by decide) ?_
        refine clVi (rest := []) (As := [.int a1, .int (3 : Int32)]) hE hml hl.1 hw (c_X1_takesSign hE.2.2.2.2.2 l _ _ _ _ hq) cu270 cu271 cu272 cu273 cu213 rfl (k := 2) (by decide +kernel) (by decide) (ci := 1) rfl (q0 := 6) rfl rfl rfl (Nat.le_of_ble_eq_true rfl) dX1_takesOperator_119 (by decide) (fun r6 σ3 hq H locs hw => ?_)
        exact rtZ hE hr hlk hq.1 hw hq.2 dX1_takesOperator_122
      · have hq := hq.2 c5
        by_cases c7 : a1 = (43 : Int32)
        · have hq := hq.1 c7
          refine lv_tableH (off := 122) (tgt := 123) hE.1 hE.2.1 dX1_takesOperator_1 c7 (by decide) (by decide) (by decide) (by decide) ?_
          refine lv_aload_n hE.1 hE.2.1 dX1_takesOperator_123 rfl (lv_at hl 0 rfl) ?_
          refine lv_iload_n hE.1 hE.2.1 dX1_takesOperator_124 rfl (lv_at hl 1 rfl) ?_
          refine lv_iconst (v := (2 : Int32)) hE.1 hE.2.1 dX1_takesOperator_125 (by decide) ?_
          refine clVi (rest := []) (As := [.int a1, .int (2 : Int32)]) hE hml hl.1 hw (c_X1_takesSign hE.2.2.2.2.2 l _ _ _ _ hq) cu270 cu271 cu272 cu273 cu213 rfl (k := 2) (by decide +kernel) (by decide) (ci := 1) rfl (q0 := 6) rfl rfl rfl (Nat.le_of_ble_eq_true rfl) dX1_takesOperator_126 (by decide) (fun r8 σ4 hq H locs hw => ?_)
          exact rtZ hE hr hlk hq.1 hw hq.2 dX1_takesOperator_129
        · have hq := hq.2 c7
          by_cases c9 : a1 = (45 : Int32)
          · have hq := hq.1 c9
            refine lv_tableH (off := 122) (tgt := 123) hE.1 hE.2.1 dX1_takesOperator_1 c9 (by decide) (by decide) (by decide) (by decide) ?_
            refine lv_aload_n hE.1 hE.2.1 dX1_takesOperator_123 rfl (lv_at hl 0 rfl) ?_
            refine lv_iload_n hE.1 hE.2.1 dX1_takesOperator_124 rfl (lv_at hl 1 rfl) ?_
            refine lv_iconst (v := (2 : Int32)) hE.1 hE.2.1 dX1_takesOperator_125 (by decide) ?_
            refine clVi (rest := []) (As := [.int a1, .int (2 : Int32)]) hE hml hl.1 hw (c_X1_takesSign hE.2.2.2.2.2 l _ _ _ _ hq) cu270 cu271 cu272 cu273 cu213 rfl (k := 2) (by decide +kernel) (by decide) (ci := 1) rfl (q0 := 6) rfl rfl rfl (Nat.le_of_ble_eq_true rfl) dX1_takesOperator_126 (by decide) (fun r10 σ5 hq H locs hw => ?_)
            exact rtZ hE hr hlk hq.1 hw hq.2 dX1_takesOperator_129
          · have hq := hq.2 c9
            by_cases c11 : a1 = (47 : Int32)
            · have hq := hq.1 c11
              refine lv_tableH (off := 115) (tgt := 116) hE.1 hE.2.1 dX1_takesOperator_1 c11 (by decide) (by decide) (by decide) (by decide) ?_
              refine lv_aload_n hE.1 hE.2.1 dX1_takesOperator_116 rfl (lv_at hl 0 rfl) ?_
              refine lv_iload_n hE.1 hE.2.1 dX1_takesOperator_117 rfl (lv_at hl 1 rfl) ?_
              refine lv_iconst (v := (3 : Int32)) hE.1 hE.2.1 dX1_takesOperator_118 (by decide) ?_
              refine clVi (rest := []) (As := [.int a1, .int (3 : Int32)]) hE hml hl.1 hw (c_X1_takesSign hE.2.2.2.2.2 l _ _ _ _ hq) cu270 cu271 cu272 cu273 cu213 rfl (k := 2) (by decide +kernel) (by decide) (ci := 1) rfl (q0 := 6) rfl rfl rfl (Nat.le_of_ble_eq_true rfl) dX1_takesOperator_119 (by decide) (fun r12 σ6 hq H locs hw => ?_)
              exact rtZ hE hr hlk hq.1 hw hq.2 dX1_takesOperator_122
            · have hq := hq.2 c11
              by_cases c13 : a1 = (60 : Int32)
              · have hq := hq.1 c13
                refine lv_tableH (off := 129) (tgt := 130) hE.1 hE.2.1 dX1_takesOperator_1 c13 (by decide) (by decide) (by decide) (by decide) ?_
                refine lv_aload_n hE.1 hE.2.1 dX1_takesOperator_130 rfl (lv_at hl 0 rfl) ?_
                refine lv_iconst (v := (2 : Int32)) hE.1 hE.2.1 dX1_takesOperator_131 (by decide) ?_
                refine clVv (rest := []) (As := [.int (2 : Int32)]) hE hml hl.1 hw (c_X1_writeDownTo hE.2.2.2.2.2 l _ _ _ hq) cu262 cu263 cu264 cu265 cu213 rfl (k := 1) (by decide +kernel) (by decide) (ci := 1) rfl (q0 := 6) rfl rfl rfl (Nat.le_of_ble_eq_true rfl) dX1_takesOperator_132 (by decide) (fun σ7 hq H locs hw => ?_)
                refine lv_aload_n hE.1 hE.2.1 dX1_takesOperator_135 rfl (lv_at hl 0 rfl) ?_
                refine clVi (rest := []) (As := []) hE hml hl.1 hw (c_X1_comparisonWaits hE.2.2.2.2.2 l _ _ hq) cu278 cu279 cu280 cu281 cu213 rfl (k := 0) (by decide +kernel) (by decide) (ci := 1) rfl (q0 := 6) rfl rfl rfl (Nat.le_of_ble_eq_true rfl) dX1_takesOperator_136 (by decide) (fun r14 σ8 hq H locs hw => ?_)
                refine lv_if_ne (tgt := 155) hE.1 hE.2.1 dX1_takesOperator_139 (by decide) (fun c15 => ?_) (fun c15 => ?_)
                · have hq := hq.2 c15
                  refine lv_iconst (v := (0 : Int32)) hE.1 hE.2.1 dX1_takesOperator_155 (by decide) ?_
                  exact rtZ hE hr hlk rfl hw hq dX1_takesOperator_156
                · have hq := hq.1 c15
                  refine lv_aload_n hE.1 hE.2.1 dX1_takesOperator_142 rfl (lv_at hl 0 rfl) ?_
                  refine lv_iload_n hE.1 hE.2.1 dX1_takesOperator_143 rfl (lv_at hl 1 rfl) ?_
                  refine lv_iconst (v := (1 : Int32)) hE.1 hE.2.1 dX1_takesOperator_144 (by decide) ?_
                  refine clVi (rest := []) (As := [.int a1, .int (1 : Int32)]) hE hml hl.1 hw (c_X1_takesSign hE.2.2.2.2.2 l _ _ _ _ hq) cu270 cu271 cu272 cu273 cu213 rfl (k := 2) (by decide +kernel) (by decide) (ci := 1) rfl (q0 := 6) rfl rfl rfl (Nat.le_of_ble_eq_true rfl) dX1_takesOperator_145 (by decide) (fun r16 σ9 hq H locs hw => ?_)
                  refine lv_if_eq (tgt := 155) hE.1 hE.2.1 dX1_takesOperator_148 (by decide) (fun c17 => ?_) (fun c17 => ?_)
                  · have hq := hq.1 c17
                    refine lv_iconst (v := (0 : Int32)) hE.1 hE.2.1 dX1_takesOperator_155 (by decide) ?_
                    exact rtZ hE hr hlk rfl hw hq dX1_takesOperator_156
                  · have hq := hq.2 c17
                    refine lv_iconst (v := (1 : Int32)) hE.1 hE.2.1 dX1_takesOperator_151 (by decide) ?_
                    refine lv_goto (tgt := 156) hE.1 hE.2.1 dX1_takesOperator_152 (by decide) ?_
                    exact rtZ hE hr hlk rfl hw hq dX1_takesOperator_156
              · have hq := hq.2 c13
                by_cases c18 : a1 = (61 : Int32)
                · have hq := hq.1 c18
                  refine lv_tableH (off := 129) (tgt := 130) hE.1 hE.2.1 dX1_takesOperator_1 c18 (by decide) (by decide) (by decide) (by decide) ?_
                  refine lv_aload_n hE.1 hE.2.1 dX1_takesOperator_130 rfl (lv_at hl 0 rfl) ?_
                  refine lv_iconst (v := (2 : Int32)) hE.1 hE.2.1 dX1_takesOperator_131 (by decide) ?_
                  refine clVv (rest := []) (As := [.int (2 : Int32)]) hE hml hl.1 hw (c_X1_writeDownTo hE.2.2.2.2.2 l _ _ _ hq) cu262 cu263 cu264 cu265 cu213 rfl (k := 1) (by decide +kernel) (by decide) (ci := 1) rfl (q0 := 6) rfl rfl rfl (Nat.le_of_ble_eq_true rfl) dX1_takesOperator_132 (by decide) (fun σ10 hq H locs hw => ?_)
                  refine lv_aload_n hE.1 hE.2.1 dX1_takesOperator_135 rfl (lv_at hl 0 rfl) ?_
                  refine clVi (rest := []) (As := []) hE hml hl.1 hw (c_X1_comparisonWaits hE.2.2.2.2.2 l _ _ hq) cu278 cu279 cu280 cu281 cu213 rfl (k := 0) (by decide +kernel) (by decide) (ci := 1) rfl (q0 := 6) rfl rfl rfl (Nat.le_of_ble_eq_true rfl) dX1_takesOperator_136 (by decide) (fun r19 σ11 hq H locs hw => ?_)
                  refine lv_if_ne (tgt := 155) hE.1 hE.2.1 dX1_takesOperator_139 (by decide) (fun c20 => ?_) (fun c20 => ?_)
                  · have hq := hq.2 c20
                    refine lv_iconst (v := (0 : Int32)) hE.1 hE.2.1 dX1_takesOperator_155 (by decide) ?_
                    exact rtZ hE hr hlk rfl hw hq dX1_takesOperator_156
                  · have hq := hq.1 c20
                    refine lv_aload_n hE.1 hE.2.1 dX1_takesOperator_142 rfl (lv_at hl 0 rfl) ?_
                    refine lv_iload_n hE.1 hE.2.1 dX1_takesOperator_143 rfl (lv_at hl 1 rfl) ?_
                    refine lv_iconst (v := (1 : Int32)) hE.1 hE.2.1 dX1_takesOperator_144 (by decide) ?_
                    refine clVi (rest := []) (As := [.int a1, .int (1 : Int32)]) hE hml hl.1 hw (c_X1_takesSign hE.2.2.2.2.2 l _ _ _ _ hq) cu270 cu271 cu272 cu273 cu213 rfl (k := 2) (by decide +kernel) (by decide) (ci := 1) rfl (q0 := 6) rfl rfl rfl (Nat.le_of_ble_eq_true rfl) dX1_takesOperator_145 (by decide) (fun r21 σ12 hq H locs hw => ?_)
                    refine lv_if_eq (tgt := 155) hE.1 hE.2.1 dX1_takesOperator_148 (by decide) (fun c22 => ?_) (fun c22 => ?_)
                    · have hq := hq.1 c22
                      refine lv_iconst (v := (0 : Int32)) hE.1 hE.2.1 dX1_takesOperator_155 (by decide) ?_
                      exact rtZ hE hr hlk rfl hw hq dX1_takesOperator_156
                    · have hq := hq.2 c22
                      refine lv_iconst (v := (1 : Int32)) hE.1 hE.2.1 dX1_takesOperator_151 (by decide) ?_
                      refine lv_goto (tgt := 156) hE.1 hE.2.1 dX1_takesOperator_152 (by decide) ?_
                      exact rtZ hE hr hlk rfl hw hq dX1_takesOperator_156
                · have hq := hq.2 c18
                  refine lv_tableD (ks := [37, 41, 42, 43, 45, 47, 60, 61]) (tgt := 162) hE.1 hE.2.1 dX1_takesOperator_1 (by simp only [List.forall_mem_cons, List.not_mem_nil, false_implies, implies_true, and_true]; exact ⟨c1, c3, c5, c7, c9, c11, c13, c18⟩) (by decide) (by decide) (by decide) ?_
                  refine lv_iconst (v := (0 : Int32)) hE.1 hE.2.1 dX1_takesOperator_162 (by decide) ?_
                  exact rtZ hE hr hlk rfl hw hq dX1_takesOperator_163
/-! QueueBench$Expression.writesOperand(CI)Z -/
abbrev rm_X1_writesOperand : Room := { frames := 1, cells := 0, slots := 0, locals := 23 }
def wp_X1_writesOperand (a1 : Int32) (a2 : Int32) (σ : S9) (Φ : Int32 → S9 → Prop) : Prop := wp_X6_addCode a1 a2 σ (fun σ1 => ∀ σ2 : S9, σ2 = sF σ1 16 (0 : Int32) → Φ (1 : Int32) σ2)
theorem dX1_writesOperand_0 : decode cX1_writesOperand 0 = .ok (.aload_n 0, 1) := by decide +kernel
theorem dX1_writesOperand_1 : decode cX1_writesOperand 1 = .ok (.getfield 23, 3) := by decide +kernel
theorem dX1_writesOperand_4 : decode cX1_writesOperand 4 = .ok (.iload_n 1, 1) := by decide +kernel
theorem dX1_writesOperand_5 : decode cX1_writesOperand 5 = .ok (.iload_n 2, 1) := by decide +kernel
theorem dX1_writesOperand_6 : decode cX1_writesOperand 6 = .ok (.invokevirtual 75, 3) := by decide +kernel
theorem dX1_writesOperand_9 : decode cX1_writesOperand 9 = .ok (.aload_n 0, 1) := by decide +kernel
theorem dX1_writesOperand_10 : decode cX1_writesOperand 10 = .ok (.iconst 0, 1) := by decide +kernel
theorem dX1_writesOperand_11 : decode cX1_writesOperand 11 = .ok (.putfield 37, 3) := by decide +kernel
theorem dX1_writesOperand_14 : decode cX1_writesOperand 14 = .ok (.iconst 1, 1) := by decide +kernel
theorem dX1_writesOperand_15 : decode cX1_writesOperand 15 = .ok (.ireturn, 1) := by decide +kernel
set_option maxRecDepth 20000 in
set_option maxHeartbeats 4000000 in
theorem c_X1_writesOperand {G : GG} (hJ : gJ 40 G) (l : Launch) (a1 : Int32) (a2 : Int32) (σ : S9) (Φ : Int32 → S9 → Prop) (hq : wp_X1_writesOperand a1 a2 σ Φ) : CI cwl 40 G l yX1_writesOperand cX1_writesOperand 3 (some .boolean) rm_X1_writesOperand [.ref (gAd G 6), .int a1, .int a2] σ Φ := by
  refine CI.intro (by decide) (Nat.le_of_ble_eq_true rfl) hJ ?_
  intro p e s m args below meth c ls hE hml hr hlk hw hl
  have hl : lv_has ls 3 [(0, .ref (gAd G 6)), (1, .int a1), (2, .int a2)] := hl
  unfold wp_X1_writesOperand at hq
  refine lv_aload_n hE.1 hE.2.1 dX1_writesOperand_0 rfl (lv_at hl 0 rfl) ?_
  refine cgf_X1_23 hE hw dX1_writesOperand_1 ?_
  refine lv_iload_n hE.1 hE.2.1 dX1_writesOperand_4 rfl (lv_at hl 1 rfl) ?_
  refine lv_iload_n hE.1 hE.2.1 dX1_writesOperand_5 rfl (lv_at hl 2 rfl) ?_
  refine clVv (rest := []) (As := [.int a1, .int a2]) hE hml hl.1 hw (c_X6_addCode hE.2.2.2.2.2 l _ _ _ _ hq) cu258 cu259 cu260 cu261 cu25 rfl (k := 2) (by decide +kernel) (by decide) (ci := 6) rfl (q0 := 3) rfl rfl rfl (Nat.le_of_ble_eq_true rfl) dX1_writesOperand_6 (by decide) (fun σ1 hq H locs hw => ?_)
  refine lv_aload_n hE.1 hE.2.1 dX1_writesOperand_9 rfl (lv_at hl 0 rfl) ?_
  refine lv_iconst (v := (0 : Int32)) hE.1 hE.2.1 dX1_writesOperand_10 (by decide) ?_
  refine cpf_X1_37 hE hw rfl (by decide) dX1_writesOperand_11 (fun σ2 eσ2 H locs hw => ?_)
  have hq := hq σ2 eσ2
  refine lv_iconst (v := (1 : Int32)) hE.1 hE.2.1 dX1_writesOperand_14 (by decide) ?_
  exact rtZ hE hr hlk rfl hw hq dX1_writesOperand_15
/-! QueueBench$Expression.opensParenthesis()Z -/
abbrev rm_X1_opensParenthesis : Room := { frames := 1, cells := 0, slots := 0, locals := 22 }
def wp_X1_opensParenthesis  (σ : S9) (Φ : Int32 → S9 → Prop) : Prop := ((σ.1 14) = (20 : Int32) → Φ (0 : Int32) σ) ∧ (¬ (σ.1 14) = (20 : Int32) → ∀ σ1 : S9, σ1 = sF σ 14 ((σ.1 14) + (1 : Int32)) → wp_X1_holds (40 : Int32) (0 : Int32) σ1 (fun r2 σ2 => narrow .boolean (.int r2) = .int r2 ∧ Φ r2 σ2))
theorem dX1_opensParenthesis_0 : decode cX1_opensParenthesis 0 = .ok (.aload_n 0, 1) := by decide +kernel
theorem dX1_opensParenthesis_1 : decode cX1_opensParenthesis 1 = .ok (.getfield 31, 3) := by decide +kernel
theorem dX1_opensParenthesis_4 : decode cX1_opensParenthesis 4 = .ok (.bipush 20, 2) := by decide +kernel
theorem dX1_opensParenthesis_6 : decode cX1_opensParenthesis 6 = .ok (.if_icmp .ne 5, 3) := by decide +kernel
theorem dX1_opensParenthesis_9 : decode cX1_opensParenthesis 9 = .ok (.iconst 0, 1) := by decide +kernel
theorem dX1_opensParenthesis_10 : decode cX1_opensParenthesis 10 = .ok (.ireturn, 1) := by decide +kernel
theorem dX1_opensParenthesis_11 : decode cX1_opensParenthesis 11 = .ok (.aload_n 0, 1) := by decide +kernel
theorem dX1_opensParenthesis_12 : decode cX1_opensParenthesis 12 = .ok (.dup, 1) := by decide +kernel
theorem dX1_opensParenthesis_13 : decode cX1_opensParenthesis 13 = .ok (.getfield 31, 3) := by decide +kernel
theorem dX1_opensParenthesis_16 : decode cX1_opensParenthesis 16 = .ok (.iconst 1, 1) := by decide +kernel
theorem dX1_opensParenthesis_17 : decode cX1_opensParenthesis 17 = .ok (.iadd, 1) := by decide +kernel
theorem dX1_opensParenthesis_18 : decode cX1_opensParenthesis 18 = .ok (.putfield 31, 3) := by decide +kernel
theorem dX1_opensParenthesis_21 : decode cX1_opensParenthesis 21 = .ok (.aload_n 0, 1) := by decide +kernel
theorem dX1_opensParenthesis_22 : decode cX1_opensParenthesis 22 = .ok (.bipush 40, 2) := by decide +kernel
theorem dX1_opensParenthesis_24 : decode cX1_opensParenthesis 24 = .ok (.iconst 0, 1) := by decide +kernel
theorem dX1_opensParenthesis_25 : decode cX1_opensParenthesis 25 = .ok (.invokevirtual 52, 3) := by decide +kernel
theorem dX1_opensParenthesis_28 : decode cX1_opensParenthesis 28 = .ok (.ireturn, 1) := by decide +kernel
set_option maxRecDepth 20000 in
set_option maxHeartbeats 4000000 in
theorem c_X1_opensParenthesis {G : GG} (hJ : gJ 40 G) (l : Launch)  (σ : S9) (Φ : Int32 → S9 → Prop) (hq : wp_X1_opensParenthesis  σ Φ) : CI cwl 40 G l yX1_opensParenthesis cX1_opensParenthesis 1 (some .boolean) rm_X1_opensParenthesis [.ref (gAd G 6)] σ Φ := by
  refine CI.intro (by decide) (Nat.le_of_ble_eq_true rfl) hJ ?_
  intro p e s m args below meth c ls hE hml hr hlk hw hl
  have hl : lv_has ls 1 [(0, .ref (gAd G 6))] := hl
  unfold wp_X1_opensParenthesis at hq
  refine lv_aload_n hE.1 hE.2.1 dX1_opensParenthesis_0 rfl (lv_at hl 0 rfl) ?_
  refine cgf_X1_31 hE hw dX1_opensParenthesis_1 ?_
  refine lv_bipush (v := (20 : Int32)) hE.1 hE.2.1 dX1_opensParenthesis_4 (by decide) ?_
  refine lv_icmp_ne (tgt := 11) hE.1 hE.2.1 dX1_opensParenthesis_6 (by decide) (fun c1 => ?_) (fun c1 => ?_)
  · have hq := hq.2 c1
    refine lv_aload_n hE.1 hE.2.1 dX1_opensParenthesis_11 rfl (lv_at hl 0 rfl) ?_
    refine lv_dup hE.1 hE.2.1 dX1_opensParenthesis_12 rfl ?_
    refine cgf_X1_31 hE hw dX1_opensParenthesis_13 ?_
    refine lv_iconst (v := (1 : Int32)) hE.1 hE.2.1 dX1_opensParenthesis_16 (by decide) ?_
    refine lv_iadd hE.1 hE.2.1 dX1_opensParenthesis_17 ?_
    refine cpf_X1_31 hE hw dX1_opensParenthesis_18 (fun σ1 eσ1 H locs hw => ?_)
    have hq := hq σ1 eσ1
    refine lv_aload_n hE.1 hE.2.1 dX1_opensParenthesis_21 rfl (lv_at hl 0 rfl) ?_
    refine lv_bipush (v := (40 : Int32)) hE.1 hE.2.1 dX1_opensParenthesis_22 (by decide) ?_
    refine lv_iconst (v := (0 : Int32)) hE.1 hE.2.1 dX1_opensParenthesis_24 (by decide) ?_
    refine clVi (rest := []) (As := [.int (40 : Int32), .int (0 : Int32)]) hE hml hl.1 hw (c_X1_holds hE.2.2.2.2.2 l _ _ _ _ hq) cu266 cu267 cu268 cu269 cu213 rfl (k := 2) (by decide +kernel) (by decide) (ci := 1) rfl (q0 := 6) rfl rfl rfl (Nat.le_of_ble_eq_true rfl) dX1_opensParenthesis_25 (by decide) (fun r2 σ2 hq H locs hw => ?_)
    exact rtZ hE hr hlk hq.1 hw hq.2 dX1_opensParenthesis_28
  · have hq := hq.1 c1
    refine lv_iconst (v := (0 : Int32)) hE.1 hE.2.1 dX1_opensParenthesis_9 (by decide) ?_
    exact rtZ hE hr hlk rfl hw hq dX1_opensParenthesis_10
/-! QueueBench$Expression.takesFactor(C)Z -/
abbrev rm_X1_takesFactor : Room := { frames := 2, cells := 0, slots := 0, locals := 45 }
def wp_X1_takesFactor (a1 : Int32) (σ : S9) (Φ : Int32 → S9 → Prop) : Prop := ((σ.1 15) = (60 : Int32) → Φ (0 : Int32) σ) ∧ (¬ (σ.1 15) = (60 : Int32) → ∀ σ1 : S9, σ1 = sF σ 15 ((σ.1 15) + (1 : Int32)) → (a1 = (35 : Int32) → wp_X1_writesOperand (35 : Int32) (0 : Int32) σ1 (fun r3 σ2 => narrow .boolean (.int r3) = .int r3 ∧ Φ r3 σ2)) ∧ (¬ a1 = (35 : Int32) → (a1 = (40 : Int32) → wp_X1_opensParenthesis σ1 (fun r5 σ3 => narrow .boolean (.int r5) = .int r5 ∧ Φ r5 σ3)) ∧ (¬ a1 = (40 : Int32) → (a1 = (45 : Int32) → wp_X1_holds (126 : Int32) (4 : Int32) σ1 (fun r7 σ4 => narrow .boolean (.int r7) = .int r7 ∧ Φ r7 σ4)) ∧ (¬ a1 = (45 : Int32) → (a1 = (48 : Int32) → wp_X9_isTooGreat σ1 (fun r9 σ5 => (r9 = 0 → wp_X1_writesOperand (48 : Int32) (((σ5.2.2)).toInt32) σ5 (fun r11 σ6 => (r11 = 0 → Φ (0 : Int32) σ6) ∧ (¬ r11 = 0 → Φ (1 : Int32) σ6))) ∧ (¬ r9 = 0 → Φ (0 : Int32) σ5))) ∧ (¬ a1 = (48 : Int32) → (a1 = (64 : Int32) → wp_X1_holds (64 : Int32) (4 : Int32) σ1 (fun r14 σ7 => narrow .boolean (.int r14) = .int r14 ∧ Φ r14 σ7)) ∧ (¬ a1 = (64 : Int32) → wp_X10_isName a1 σ1 (fun r15 σ8 => (r15 = 0 → Φ (0 : Int32) σ8) ∧ (¬ r15 = 0 → wp_X1_writesOperand (97 : Int32) (a1 - (97 : Int32)) σ8 (fun r17 σ9 => (r17 = 0 → Φ (0 : Int32) σ9) ∧ (¬ r17 = 0 → Φ (1 : Int32) σ9))))))))))
theorem dX1_takesFactor_0 : decode cX1_takesFactor 0 = .ok (.aload_n 0, 1) := by decide +kernel
theorem dX1_takesFactor_1 : decode cX1_takesFactor 1 = .ok (.getfield 34, 3) := by decide +kernel
theorem dX1_takesFactor_4 : decode cX1_takesFactor 4 = .ok (.bipush 60, 2) := by decide +kernel
theorem dX1_takesFactor_6 : decode cX1_takesFactor 6 = .ok (.if_icmp .ne 5, 3) := by decide +kernel
theorem dX1_takesFactor_9 : decode cX1_takesFactor 9 = .ok (.iconst 0, 1) := by decide +kernel
theorem dX1_takesFactor_10 : decode cX1_takesFactor 10 = .ok (.ireturn, 1) := by decide +kernel
theorem dX1_takesFactor_11 : decode cX1_takesFactor 11 = .ok (.aload_n 0, 1) := by decide +kernel
theorem dX1_takesFactor_12 : decode cX1_takesFactor 12 = .ok (.dup, 1) := by decide +kernel
theorem dX1_takesFactor_13 : decode cX1_takesFactor 13 = .ok (.getfield 34, 3) := by decide +kernel
theorem dX1_takesFactor_16 : decode cX1_takesFactor 16 = .ok (.iconst 1, 1) := by decide +kernel
theorem dX1_takesFactor_17 : decode cX1_takesFactor 17 = .ok (.iadd, 1) := by decide +kernel
theorem dX1_takesFactor_18 : decode cX1_takesFactor 18 = .ok (.putfield 34, 3) := by decide +kernel
theorem dX1_takesFactor_21 : decode cX1_takesFactor 21 = .ok (.iload_n 1, 1) := by decide +kernel
theorem dX1_takesFactor_22 : decode cX1_takesFactor 22 = .ok (.lookupswitch 112 #[(35, 71), (40, 66), (45, 50), (48, 79), (64, 58)], 50) := by decide +kernel
theorem dX1_takesFactor_72 : decode cX1_takesFactor 72 = .ok (.aload_n 0, 1) := by decide +kernel
theorem dX1_takesFactor_73 : decode cX1_takesFactor 73 = .ok (.bipush 126, 2) := by decide +kernel
theorem dX1_takesFactor_75 : decode cX1_takesFactor 75 = .ok (.iconst 4, 1) := by decide +kernel
theorem dX1_takesFactor_76 : decode cX1_takesFactor 76 = .ok (.invokevirtual 52, 3) := by decide +kernel
theorem dX1_takesFactor_79 : decode cX1_takesFactor 79 = .ok (.ireturn, 1) := by decide +kernel
theorem dX1_takesFactor_80 : decode cX1_takesFactor 80 = .ok (.aload_n 0, 1) := by decide +kernel
theorem dX1_takesFactor_81 : decode cX1_takesFactor 81 = .ok (.bipush 64, 2) := by decide +kernel
theorem dX1_takesFactor_83 : decode cX1_takesFactor 83 = .ok (.iconst 4, 1) := by decide +kernel
theorem dX1_takesFactor_84 : decode cX1_takesFactor 84 = .ok (.invokevirtual 52, 3) := by decide +kernel
theorem dX1_takesFactor_87 : decode cX1_takesFactor 87 = .ok (.ireturn, 1) := by decide +kernel
theorem dX1_takesFactor_88 : decode cX1_takesFactor 88 = .ok (.aload_n 0, 1) := by decide +kernel
theorem dX1_takesFactor_89 : decode cX1_takesFactor 89 = .ok (.invokevirtual 56, 3) := by decide +kernel
theorem dX1_takesFactor_92 : decode cX1_takesFactor 92 = .ok (.ireturn, 1) := by decide +kernel
theorem dX1_takesFactor_93 : decode cX1_takesFactor 93 = .ok (.aload_n 0, 1) := by decide +kernel
theorem dX1_takesFactor_94 : decode cX1_takesFactor 94 = .ok (.bipush 35, 2) := by decide +kernel
theorem dX1_takesFactor_96 : decode cX1_takesFactor 96 = .ok (.iconst 0, 1) := by decide +kernel
theorem dX1_takesFactor_97 : decode cX1_takesFactor 97 = .ok (.invokevirtual 60, 3) := by decide +kernel
theorem dX1_takesFactor_100 : decode cX1_takesFactor 100 = .ok (.ireturn, 1) := by decide +kernel
theorem dX1_takesFactor_101 : decode cX1_takesFactor 101 = .ok (.aload_n 0, 1) := by decide +kernel
theorem dX1_takesFactor_102 : decode cX1_takesFactor 102 = .ok (.getfield 19, 3) := by decide +kernel
theorem dX1_takesFactor_105 : decode cX1_takesFactor 105 = .ok (.invokevirtual 63, 3) := by decide +kernel
theorem dX1_takesFactor_108 : decode cX1_takesFactor 108 = .ok (.ifCond .ne 24, 3) := by decide +kernel
theorem dX1_takesFactor_111 : decode cX1_takesFactor 111 = .ok (.aload_n 0, 1) := by decide +kernel
theorem dX1_takesFactor_112 : decode cX1_takesFactor 112 = .ok (.bipush 48, 2) := by decide +kernel
theorem dX1_takesFactor_114 : decode cX1_takesFactor 114 = .ok (.aload_n 0, 1) := by decide +kernel
theorem dX1_takesFactor_115 : decode cX1_takesFactor 115 = .ok (.getfield 19, 3) := by decide +kernel
theorem dX1_takesFactor_118 : decode cX1_takesFactor 118 = .ok (.getfield 68, 3) := by decide +kernel
theorem dX1_takesFactor_121 : decode cX1_takesFactor 121 = .ok (.l2i, 1) := by decide +kernel
theorem dX1_takesFactor_122 : decode cX1_takesFactor 122 = .ok (.invokevirtual 60, 3) := by decide +kernel
theorem dX1_takesFactor_125 : decode cX1_takesFactor 125 = .ok (.ifCond .eq 7, 3) := by decide +kernel
theorem dX1_takesFactor_128 : decode cX1_takesFactor 128 = .ok (.iconst 1, 1) := by decide +kernel
theorem dX1_takesFactor_129 : decode cX1_takesFactor 129 = .ok (.goto 4, 3) := by decide +kernel
theorem dX1_takesFactor_132 : decode cX1_takesFactor 132 = .ok (.iconst 0, 1) := by decide +kernel
theorem dX1_takesFactor_133 : decode cX1_takesFactor 133 = .ok (.ireturn, 1) := by decide +kernel
theorem dX1_takesFactor_134 : decode cX1_takesFactor 134 = .ok (.iload_n 1, 1) := by decide +kernel
theorem dX1_takesFactor_135 : decode cX1_takesFactor 135 = .ok (.invokestatic 72, 3) := by decide +kernel
theorem dX1_takesFactor_138 : decode cX1_takesFactor 138 = .ok (.ifCond .eq 20, 3) := by decide +kernel
theorem dX1_takesFactor_141 : decode cX1_takesFactor 141 = .ok (.aload_n 0, 1) := by decide +kernel
theorem dX1_takesFactor_142 : decode cX1_takesFactor 142 = .ok (.bipush 97, 2) := by decide +kernel
theorem dX1_takesFactor_144 : decode cX1_takesFactor 144 = .ok (.iload_n 1, 1) := by decide +kernel
theorem dX1_takesFactor_145 : decode cX1_takesFactor 145 = .ok (.bipush 97, 2) := by decide +kernel
theorem dX1_takesFactor_147 : decode cX1_takesFactor 147 = .ok (.isub, 1) := by decide +kernel
theorem dX1_takesFactor_148 : decode cX1_takesFactor 148 = .ok (.invokevirtual 60, 3) := by decide +kernel
theorem dX1_takesFactor_151 : decode cX1_takesFactor 151 = .ok (.ifCond .eq 7, 3) := by decide +kernel
theorem dX1_takesFactor_154 : decode cX1_takesFactor 154 = .ok (.iconst 1, 1) := by decide +kernel
theorem dX1_takesFactor_155 : decode cX1_takesFactor 155 = .ok (.goto 4, 3) := by decide +kernel
theorem dX1_takesFactor_158 : decode cX1_takesFactor 158 = .ok (.iconst 0, 1) := by decide +kernel
theorem dX1_takesFactor_159 : decode cX1_takesFactor 159 = .ok (.ireturn, 1) := by decide +kernel
set_option maxRecDepth 20000 in
set_option maxHeartbeats 4000000 in
theorem c_X1_takesFactor {G : GG} (hJ : gJ 40 G) (l : Launch) (a1 : Int32) (σ : S9) (Φ : Int32 → S9 → Prop) (hq : wp_X1_takesFactor a1 σ Φ) : CI cwl 40 G l yX1_takesFactor cX1_takesFactor 2 (some .boolean) rm_X1_takesFactor [.ref (gAd G 6), .int a1] σ Φ := by
  refine CI.intro (by decide) (Nat.le_of_ble_eq_true rfl) hJ ?_
  intro p e s m args below meth c ls hE hml hr hlk hw hl
  have hl : lv_has ls 2 [(0, .ref (gAd G 6)), (1, .int a1)] := hl
  unfold wp_X1_takesFactor at hq
  refine lv_aload_n hE.1 hE.2.1 dX1_takesFactor_0 rfl (lv_at hl 0 rfl) ?_
  refine cgf_X1_34 hE hw dX1_takesFactor_1 ?_
  refine lv_bipush (v := (60 : Int32)) hE.1 hE.2.1 dX1_takesFactor_4 (by decide) ?_
  refine lv_icmp_ne (tgt := 11) hE.1 hE.2.1 dX1_takesFactor_6 (by decide) (fun c1 => ?_) (fun c1 => ?_)
  · have hq := hq.2 c1
    refine lv_aload_n hE.1 hE.2.1 dX1_takesFactor_11 rfl (lv_at hl 0 rfl) ?_
    refine lv_dup hE.1 hE.2.1 dX1_takesFactor_12 rfl ?_
    refine cgf_X1_34 hE hw dX1_takesFactor_13 ?_
    refine lv_iconst (v := (1 : Int32)) hE.1 hE.2.1 dX1_takesFactor_16 (by decide) ?_
    refine lv_iadd hE.1 hE.2.1 dX1_takesFactor_17 ?_
    refine cpf_X1_34 hE hw dX1_takesFactor_18 (fun σ1 eσ1 H locs hw => ?_)
    have hq := hq σ1 eσ1
    refine lv_iload_n hE.1 hE.2.1 dX1_takesFactor_21 rfl (lv_at hl 1 rfl) ?_
    by_cases c2 : a1 = (35 : Int32)
    · have hq := hq.1 c2
      refine lv_lookup (off := 71) (tgt := 93) hE.1 hE.2.1 dX1_takesFactor_22 (by decide) (osw_hit c2 rfl) (by decide) ?_
      refine lv_aload_n hE.1 hE.2.1 dX1_takesFactor_93 rfl (lv_at hl 0 rfl) ?_
      refine lv_bipush (v := (35 : Int32)) hE.1 hE.2.1 dX1_takesFactor_94 (by decide) ?_
      refine lv_iconst (v := (0 : Int32)) hE.1 hE.2.1 dX1_takesFactor_96 (by decide) ?_
      refine clVi (rest := []) (As := [.int (35 : Int32), .int (0 : Int32)]) hE hml hl.1 hw (c_X1_writesOperand hE.2.2.2.2.2 l _ _ _ _ hq) cu286 cu287 cu288 cu289 cu213 rfl (k := 2) (by decide +kernel) (by decide) (ci := 1) rfl (q0 := 6) rfl rfl rfl (Nat.le_of_ble_eq_true rfl) dX1_takesFactor_97 (by decide) (fun r3 σ2 hq H locs hw => ?_)
      exact rtZ hE hr hlk hq.1 hw hq.2 dX1_takesFactor_100
    · have hq := hq.2 c2
      by_cases c4 : a1 = (40 : Int32)
      · have hq := hq.1 c4
        refine lv_lookup (off := 66) (tgt := 88) hE.1 hE.2.1 dX1_takesFactor_22 (by decide) ((lv_osw c2 rfl).trans (osw_hit c4 rfl)) (by decide) ?_
        refine lv_aload_n hE.1 hE.2.1 dX1_takesFactor_88 rfl (lv_at hl 0 rfl) ?_
        refine clVi (rest := []) (As := []) hE hml hl.1 hw (c_X1_opensParenthesis hE.2.2.2.2.2 l _ _ hq) cu290 cu291 cu292 cu293 cu213 rfl (k := 0) (by decide +kernel) (by decide) (ci := 1) rfl (q0 := 6) rfl rfl rfl (Nat.le_of_ble_eq_true rfl) dX1_takesFactor_89 (by decide) (fun r5 σ3 hq H locs hw => ?_)
        exact rtZ hE hr hlk hq.1 hw hq.2 dX1_takesFactor_92
      · have hq := hq.2 c4
        by_cases c6 : a1 = (45 : Int32)
        · have hq := hq.1 c6
          refine lv_lookup (off := 50) (tgt := 72) hE.1 hE.2.1 dX1_takesFactor_22 (by decide) ((lv_osw c2 rfl).trans ((lv_osw c4 rfl).trans (osw_hit c6 rfl))) (by decide) ?_
          refine lv_aload_n hE.1 hE.2.1 dX1_takesFactor_72 rfl (lv_at hl 0 rfl) ?_
          refine lv_bipush (v := (126 : Int32)) hE.1 hE.2.1 dX1_takesFactor_73 (by decide) ?_
          refine lv_iconst (v := (4 : Int32)) hE.1 hE.2.1 dX1_takesFactor_75 (by decide) ?_
          refine clVi (rest := []) (As := [.int (126 : Int32), .int (4 : Int32)]) hE hml hl.1 hw (c_X1_holds hE.2.2.2.2.2 l _ _ _ _ hq) cu266 cu267 cu268 cu269 cu213 rfl (k := 2) (by decide +kernel) (by decide) (ci := 1) rfl (q0 := 6) rfl rfl rfl (Nat.le_of_ble_eq_true rfl) dX1_takesFactor_76 (by decide) (fun r7 σ4 hq H locs hw => ?_)
          exact rtZ hE hr hlk hq.1 hw hq.2 dX1_takesFactor_79
        · have hq := hq.2 c6
          by_cases c8 : a1 = (48 : Int32)
          · have hq := hq.1 c8
            refine lv_lookup (off := 79) (tgt := 101) hE.1 hE.2.1 dX1_takesFactor_22 (by decide) ((lv_osw c2 rfl).trans ((lv_osw c4 rfl).trans ((lv_osw c6 rfl).trans (osw_hit c8 rfl)))) (by decide) ?_
            refine lv_aload_n hE.1 hE.2.1 dX1_takesFactor_101 rfl (lv_at hl 0 rfl) ?_
            refine cgf_X1_19 hE hw dX1_takesFactor_102 ?_
            refine clVi (rest := []) (As := []) hE hml hl.1 hw (c_X9_isTooGreat hE.2.2.2.2.2 l _ _ hq) cu164 cu295 cu167 cu168 cu165 rfl (k := 0) (by decide +kernel) (by decide) (ci := 9) rfl (q0 := 5) rfl rfl rfl (Nat.le_of_ble_eq_true rfl) dX1_takesFactor_105 (by decide) (fun r9 σ5 hq H locs hw => ?_)
            refine lv_if_ne (tgt := 132) hE.1 hE.2.1 dX1_takesFactor_108 (by decide) (fun c10 => ?_) (fun c10 => ?_)
            · have hq := hq.2 c10
              refine lv_iconst (v := (0 : Int32)) hE.1 hE.2.1 dX1_takesFactor_132 (by decide) ?_
              exact rtZ hE hr hlk rfl hw hq dX1_takesFactor_133
            · have hq := hq.1 c10
              refine lv_aload_n hE.1 hE.2.1 dX1_takesFactor_111 rfl (lv_at hl 0 rfl) ?_
              refine lv_bipush (v := (48 : Int32)) hE.1 hE.2.1 dX1_takesFactor_112 (by decide) ?_
              refine lv_aload_n hE.1 hE.2.1 dX1_takesFactor_114 rfl (lv_at hl 0 rfl) ?_
              refine cgf_X1_19 hE hw dX1_takesFactor_115 ?_
              refine cgf_X1_68 hE hw dX1_takesFactor_118 ?_
              refine lv_l2i (v := ((σ5.2.2)).toInt32) hE.1 hE.2.1 dX1_takesFactor_121 rfl ?_
              refine clVi (rest := []) (As := [.int (48 : Int32), .int (((σ5.2.2)).toInt32)]) hE hml hl.1 hw (c_X1_writesOperand hE.2.2.2.2.2 l _ _ _ _ hq) cu286 cu287 cu288 cu289 cu213 rfl (k := 2) (by decide +kernel) (by decide) (ci := 1) rfl (q0 := 6) rfl rfl rfl (Nat.le_of_ble_eq_true rfl) dX1_takesFactor_122 (by decide) (fun r11 σ6 hq H locs hw => ?_)
              refine lv_if_eq (tgt := 132) hE.1 hE.2.1 dX1_takesFactor_125 (by decide) (fun c12 => ?_) (fun c12 => ?_)
              · have hq := hq.1 c12
                refine lv_iconst (v := (0 : Int32)) hE.1 hE.2.1 dX1_takesFactor_132 (by decide) ?_
                exact rtZ hE hr hlk rfl hw hq dX1_takesFactor_133
              · have hq := hq.2 c12
                refine lv_iconst (v := (1 : Int32)) hE.1 hE.2.1 dX1_takesFactor_128 (by decide) ?_
                refine lv_goto (tgt := 133) hE.1 hE.2.1 dX1_takesFactor_129 (by decide) ?_
                exact rtZ hE hr hlk rfl hw hq dX1_takesFactor_133
          · have hq := hq.2 c8
            by_cases c13 : a1 = (64 : Int32)
            · have hq := hq.1 c13
              refine lv_lookup (off := 58) (tgt := 80) hE.1 hE.2.1 dX1_takesFactor_22 (by decide) ((lv_osw c2 rfl).trans ((lv_osw c4 rfl).trans ((lv_osw c6 rfl).trans ((lv_osw c8 rfl).trans (osw_hit c13 rfl))))) (by decide) ?_
              refine lv_aload_n hE.1 hE.2.1 dX1_takesFactor_80 rfl (lv_at hl 0 rfl) ?_
              refine lv_bipush (v := (64 : Int32)) hE.1 hE.2.1 dX1_takesFactor_81 (by decide) ?_
              refine lv_iconst (v := (4 : Int32)) hE.1 hE.2.1 dX1_takesFactor_83 (by decide) ?_
              refine clVi (rest := []) (As := [.int (64 : Int32), .int (4 : Int32)]) hE hml hl.1 hw (c_X1_holds hE.2.2.2.2.2 l _ _ _ _ hq) cu266 cu267 cu268 cu269 cu213 rfl (k := 2) (by decide +kernel) (by decide) (ci := 1) rfl (q0 := 6) rfl rfl rfl (Nat.le_of_ble_eq_true rfl) dX1_takesFactor_84 (by decide) (fun r14 σ7 hq H locs hw => ?_)
              exact rtZ hE hr hlk hq.1 hw hq.2 dX1_takesFactor_87
            · have hq := hq.2 c13
              refine lv_lookup (off := 112) (tgt := 134) hE.1 hE.2.1 dX1_takesFactor_22 (by decide) ((lv_osw c2 rfl).trans ((lv_osw c4 rfl).trans ((lv_osw c6 rfl).trans ((lv_osw c8 rfl).trans ((lv_osw c13 rfl).trans rfl))))) (by decide) ?_
              refine lv_iload_n hE.1 hE.2.1 dX1_takesFactor_134 rfl (lv_at hl 1 rfl) ?_
              refine clNi (rest := []) (As := [.int a1]) hE hml hl.1 hw (c_X10_isName hE.2.2.2.2.2 l _ _ _ hq) cu188 (List.mem_of_getElem? (i := 49) rfl) cu189 cu47 (k := 1) (by decide +kernel) (by decide) rfl rfl (Nat.le_of_ble_eq_true rfl) dX1_takesFactor_135 (by decide) (fun r15 σ8 hq H locs hw => ?_)
              refine lv_if_eq (tgt := 158) hE.1 hE.2.1 dX1_takesFactor_138 (by decide) (fun c16 => ?_) (fun c16 => ?_)
              · have hq := hq.1 c16
                refine lv_iconst (v := (0 : Int32)) hE.1 hE.2.1 dX1_takesFactor_158 (by decide) ?_
                exact rtZ hE hr hlk rfl hw hq dX1_takesFactor_159
              · have hq := hq.2 c16
                refine lv_aload_n hE.1 hE.2.1 dX1_takesFactor_141 rfl (lv_at hl 0 rfl) ?_
                refine lv_bipush (v := (97 : Int32)) hE.1 hE.2.1 dX1_takesFactor_142 (by decide) ?_
                refine lv_iload_n hE.1 hE.2.1 dX1_takesFactor_144 rfl (lv_at hl 1 rfl) ?_
                refine lv_bipush (v := (97 : Int32)) hE.1 hE.2.1 dX1_takesFactor_145 (by decide) ?_
                refine lv_isub hE.1 hE.2.1 dX1_takesFactor_147 ?_
                refine clVi (rest := []) (As := [.int (97 : Int32), .int (a1 - (97 : Int32))]) hE hml hl.1 hw (c_X1_writesOperand hE.2.2.2.2.2 l _ _ _ _ hq) cu286 cu287 cu288 cu289 cu213 rfl (k := 2) (by decide +kernel) (by decide) (ci := 1) rfl (q0 := 6) rfl rfl rfl (Nat.le_of_ble_eq_true rfl) dX1_takesFactor_148 (by decide) (fun r17 σ9 hq H locs hw => ?_)
                refine lv_if_eq (tgt := 158) hE.1 hE.2.1 dX1_takesFactor_151 (by decide) (fun c18 => ?_) (fun c18 => ?_)
                · have hq := hq.1 c18
                  refine lv_iconst (v := (0 : Int32)) hE.1 hE.2.1 dX1_takesFactor_158 (by decide) ?_
                  exact rtZ hE hr hlk rfl hw hq dX1_takesFactor_159
                · have hq := hq.2 c18
                  refine lv_iconst (v := (1 : Int32)) hE.1 hE.2.1 dX1_takesFactor_154 (by decide) ?_
                  refine lv_goto (tgt := 159) hE.1 hE.2.1 dX1_takesFactor_155 (by decide) ?_
                  exact rtZ hE hr hlk rfl hw hq dX1_takesFactor_159
  · have hq := hq.1 c1
    refine lv_iconst (v := (0 : Int32)) hE.1 hE.2.1 dX1_takesFactor_9 (by decide) ?_
    exact rtZ hE hr hlk rfl hw hq dX1_takesFactor_10
/-! QueueBench$Expression.takes(C)Z -/
abbrev rm_X1_takes : Room := { frames := 4, cells := 0, slots := 0, locals := 87 }
def wp_X1_takes_b20  (Φ : Int32 → S9 → Prop) (t0 : Int32) (σ : S9) : Prop := (t0 = 0 → narrow .boolean (.int t0) = .int t0 ∧ Φ t0 σ) ∧ (¬ t0 = 0 → ((σ.1 16) = 0 → wp_X1_writeDownTo (4 : Int32) σ (fun σ1 => narrow .boolean (.int t0) = .int t0 ∧ Φ t0 σ1)) ∧ (¬ (σ.1 16) = 0 → narrow .boolean (.int t0) = .int t0 ∧ Φ t0 σ))
def wp_X1_takes (a1 : Int32) (σ : S9) (Φ : Int32 → S9 → Prop) : Prop := ((σ.1 16) = 0 → wp_X1_takesOperator a1 σ (fun r2 σ1 => wp_X1_takes_b20  Φ r2 σ1)) ∧ (¬ (σ.1 16) = 0 → wp_X1_takesFactor a1 σ (fun r3 σ2 => wp_X1_takes_b20  Φ r3 σ2))
theorem dX1_takes_0 : decode cX1_takes 0 = .ok (.aload_n 0, 1) := by decide +kernel
theorem dX1_takes_1 : decode cX1_takes 1 = .ok (.getfield 37, 3) := by decide +kernel
theorem dX1_takes_4 : decode cX1_takes 4 = .ok (.ifCond .eq 11, 3) := by decide +kernel
theorem dX1_takes_7 : decode cX1_takes 7 = .ok (.aload_n 0, 1) := by decide +kernel
theorem dX1_takes_8 : decode cX1_takes 8 = .ok (.iload_n 1, 1) := by decide +kernel
theorem dX1_takes_9 : decode cX1_takes 9 = .ok (.invokevirtual 45, 3) := by decide +kernel
theorem dX1_takes_12 : decode cX1_takes 12 = .ok (.goto 8, 3) := by decide +kernel
theorem dX1_takes_15 : decode cX1_takes 15 = .ok (.aload_n 0, 1) := by decide +kernel
theorem dX1_takes_16 : decode cX1_takes 16 = .ok (.iload_n 1, 1) := by decide +kernel
theorem dX1_takes_17 : decode cX1_takes 17 = .ok (.invokevirtual 49, 3) := by decide +kernel
theorem dX1_takes_20 : decode cX1_takes 20 = .ok (.istore_n 2, 1) := by decide +kernel
theorem dX1_takes_21 : decode cX1_takes 21 = .ok (.iload_n 2, 1) := by decide +kernel
theorem dX1_takes_22 : decode cX1_takes 22 = .ok (.ifCond .eq 15, 3) := by decide +kernel
theorem dX1_takes_25 : decode cX1_takes 25 = .ok (.aload_n 0, 1) := by decide +kernel
theorem dX1_takes_26 : decode cX1_takes 26 = .ok (.getfield 37, 3) := by decide +kernel
theorem dX1_takes_29 : decode cX1_takes 29 = .ok (.ifCond .ne 8, 3) := by decide +kernel
theorem dX1_takes_32 : decode cX1_takes 32 = .ok (.aload_n 0, 1) := by decide +kernel
theorem dX1_takes_33 : decode cX1_takes 33 = .ok (.iconst 4, 1) := by decide +kernel
theorem dX1_takes_34 : decode cX1_takes 34 = .ok (.invokevirtual 41, 3) := by decide +kernel
theorem dX1_takes_37 : decode cX1_takes 37 = .ok (.iload_n 2, 1) := by decide +kernel
theorem dX1_takes_38 : decode cX1_takes 38 = .ok (.ireturn, 1) := by decide +kernel
set_option maxRecDepth 20000 in
set_option maxHeartbeats 4000000 in
theorem tb_X1_takes_b20 {p : Program} {l : Launch} {e : Env} {s : State} {m : MethodId} {args : Array Value} {below : List Frame} {meth : Method} {c : Code} {G : GG} {Φ : Int32 → S9 → Prop}  (hE : Ev 40 G p s m args c cX1_takes RX1) (hml : c.maxLocals = 3) (hr : meth.sig.returnType = (some .boolean)) (hlk : meth.locks = false)  {t0 : Int32} {σ : S9} {H : Heap} {locs : List Loc} {ls : Array Slot} (hq : wp_X1_takes_b20  Φ t0 σ) (hw : Pic cwl 40 G σ s.heap H locs) (hl : lv_has ls 3 [(0, .ref (gAd G 6))]) : W p l e rm_X1_takes s m args below meth c H locs 0 0 (QI cwl 40 G below args s Φ) (F0 m 20 ls [.int t0]) := by
  unfold wp_X1_takes_b20 at hq
  refine lv_istore_n (lv' := [(2, .int t0), (0, .ref (gAd G 6))]) hE.1 hE.2.1 dX1_takes_20 rfl hl (by decide) rfl (fun ls hl => ?_)
  refine lv_iload_n hE.1 hE.2.1 dX1_takes_21 rfl (lv_at hl 0 rfl) ?_
  refine lv_if_eq (tgt := 37) hE.1 hE.2.1 dX1_takes_22 (by decide) (fun c1 => ?_) (fun c1 => ?_)
  · have hq := hq.1 c1
    refine lv_iload_n hE.1 hE.2.1 dX1_takes_37 rfl (lv_at hl 0 rfl) ?_
    exact rtZ hE hr hlk hq.1 hw hq.2 dX1_takes_38
  · have hq := hq.2 c1
    refine lv_aload_n hE.1 hE.2.1 dX1_takes_25 rfl (lv_at hl 1 rfl) ?_
    refine cgf_X1_37 hE hw dX1_takes_26 ?_
    refine lv_if_ne (tgt := 37) hE.1 hE.2.1 dX1_takes_29 (by decide) (fun c2 => ?_) (fun c2 => ?_)
    · have hq := hq.2 c2
      refine lv_iload_n hE.1 hE.2.1 dX1_takes_37 rfl (lv_at hl 0 rfl) ?_
      exact rtZ hE hr hlk hq.1 hw hq.2 dX1_takes_38
    · have hq := hq.1 c2
      refine lv_aload_n hE.1 hE.2.1 dX1_takes_32 rfl (lv_at hl 1 rfl) ?_
      refine lv_iconst (v := (4 : Int32)) hE.1 hE.2.1 dX1_takes_33 (by decide) ?_
      refine clVv (rest := []) (As := [.int (4 : Int32)]) hE hml hl.1 hw (c_X1_writeDownTo hE.2.2.2.2.2 l _ _ _ hq) cu262 cu263 cu264 cu265 cu213 rfl (k := 1) (by decide +kernel) (by decide) (ci := 1) rfl (q0 := 6) rfl rfl rfl (Nat.le_of_ble_eq_true rfl) dX1_takes_34 (by decide) (fun σ1 hq H locs hw => ?_)
      refine lv_iload_n hE.1 hE.2.1 dX1_takes_37 rfl (lv_at hl 0 rfl) ?_
      exact rtZ hE hr hlk hq.1 hw hq.2 dX1_takes_38
set_option maxRecDepth 20000 in
set_option maxHeartbeats 4000000 in
theorem c_X1_takes {G : GG} (hJ : gJ 40 G) (l : Launch) (a1 : Int32) (σ : S9) (Φ : Int32 → S9 → Prop) (hq : wp_X1_takes a1 σ Φ) : CI cwl 40 G l yX1_takes cX1_takes 3 (some .boolean) rm_X1_takes [.ref (gAd G 6), .int a1] σ Φ := by
  refine CI.intro (by decide) (Nat.le_of_ble_eq_true rfl) hJ ?_
  intro p e s m args below meth c ls hE hml hr hlk hw hl
  have hl : lv_has ls 3 [(0, .ref (gAd G 6)), (1, .int a1)] := hl
  unfold wp_X1_takes at hq
  refine lv_aload_n hE.1 hE.2.1 dX1_takes_0 rfl (lv_at hl 0 rfl) ?_
  refine cgf_X1_37 hE hw dX1_takes_1 ?_
  refine lv_if_eq (tgt := 15) hE.1 hE.2.1 dX1_takes_4 (by decide) (fun c1 => ?_) (fun c1 => ?_)
  · have hq := hq.1 c1
    refine lv_aload_n hE.1 hE.2.1 dX1_takes_15 rfl (lv_at hl 0 rfl) ?_
    refine lv_iload_n hE.1 hE.2.1 dX1_takes_16 rfl (lv_at hl 1 rfl) ?_
    refine clVi (rest := []) (As := [.int a1]) hE hml hl.1 hw (c_X1_takesOperator hE.2.2.2.2.2 l _ _ _ hq) cu282 cu283 cu284 cu285 cu213 rfl (k := 1) (by decide +kernel) (by decide) (ci := 1) rfl (q0 := 6) rfl rfl rfl (Nat.le_of_ble_eq_true rfl) dX1_takes_17 (by decide) (fun r2 σ1 hq H locs hw => ?_)
    exact tb_X1_takes_b20 hE hml hr hlk  hq hw (lv_sub hl [0] rfl)
  · have hq := hq.2 c1
    refine lv_aload_n hE.1 hE.2.1 dX1_takes_7 rfl (lv_at hl 0 rfl) ?_
    refine lv_iload_n hE.1 hE.2.1 dX1_takes_8 rfl (lv_at hl 1 rfl) ?_
    refine clVi (rest := []) (As := [.int a1]) hE hml hl.1 hw (c_X1_takesFactor hE.2.2.2.2.2 l _ _ _ hq) cu296 cu297 cu298 cu299 cu213 rfl (k := 1) (by decide +kernel) (by decide) (ci := 1) rfl (q0 := 6) rfl rfl rfl (Nat.le_of_ble_eq_true rfl) dX1_takes_9 (by decide) (fun r3 σ2 hq H locs hw => ?_)
    refine lv_goto (tgt := 20) hE.1 hE.2.1 dX1_takes_12 (by decide) ?_
    exact tb_X1_takes_b20 hE hml hr hlk  hq hw (lv_sub hl [0] rfl)
/-! QueueBench$Expression.mayEnd()Z -/
abbrev rm_X1_mayEnd : Room := { frames := 0, cells := 0, slots := 0, locals := 0 }
def wp_X1_mayEnd  (σ : S9) (Φ : Int32 → S9 → Prop) : Prop := ((σ.1 16) = 0 → ((σ.1 14) = 0 → Φ (1 : Int32) σ) ∧ (¬ (σ.1 14) = 0 → Φ (0 : Int32) σ)) ∧ (¬ (σ.1 16) = 0 → Φ (0 : Int32) σ)
theorem dX1_mayEnd_0 : decode cX1_mayEnd 0 = .ok (.aload_n 0, 1) := by decide +kernel
theorem dX1_mayEnd_1 : decode cX1_mayEnd 1 = .ok (.getfield 37, 3) := by decide +kernel
theorem dX1_mayEnd_4 : decode cX1_mayEnd 4 = .ok (.ifCond .ne 14, 3) := by decide +kernel
theorem dX1_mayEnd_7 : decode cX1_mayEnd 7 = .ok (.aload_n 0, 1) := by decide +kernel
theorem dX1_mayEnd_8 : decode cX1_mayEnd 8 = .ok (.getfield 31, 3) := by decide +kernel
theorem dX1_mayEnd_11 : decode cX1_mayEnd 11 = .ok (.ifCond .ne 7, 3) := by decide +kernel
theorem dX1_mayEnd_14 : decode cX1_mayEnd 14 = .ok (.iconst 1, 1) := by decide +kernel
theorem dX1_mayEnd_15 : decode cX1_mayEnd 15 = .ok (.goto 4, 3) := by decide +kernel
theorem dX1_mayEnd_18 : decode cX1_mayEnd 18 = .ok (.iconst 0, 1) := by decide +kernel
theorem dX1_mayEnd_19 : decode cX1_mayEnd 19 = .ok (.ireturn, 1) := by decide +kernel
set_option maxRecDepth 20000 in
set_option maxHeartbeats 4000000 in
theorem c_X1_mayEnd {G : GG} (hJ : gJ 40 G) (l : Launch)  (σ : S9) (Φ : Int32 → S9 → Prop) (hq : wp_X1_mayEnd  σ Φ) : CI cwl 40 G l yX1_mayEnd cX1_mayEnd 1 (some .boolean) rm_X1_mayEnd [.ref (gAd G 6)] σ Φ := by
  refine CI.intro (by decide) (Nat.le_of_ble_eq_true rfl) hJ ?_
  intro p e s m args below meth c ls hE hml hr hlk hw hl
  have hl : lv_has ls 1 [(0, .ref (gAd G 6))] := hl
  unfold wp_X1_mayEnd at hq
  refine lv_aload_n hE.1 hE.2.1 dX1_mayEnd_0 rfl (lv_at hl 0 rfl) ?_
  refine cgf_X1_37 hE hw dX1_mayEnd_1 ?_
  refine lv_if_ne (tgt := 18) hE.1 hE.2.1 dX1_mayEnd_4 (by decide) (fun c1 => ?_) (fun c1 => ?_)
  · have hq := hq.2 c1
    refine lv_iconst (v := (0 : Int32)) hE.1 hE.2.1 dX1_mayEnd_18 (by decide) ?_
    exact rtZ hE hr hlk rfl hw hq dX1_mayEnd_19
  · have hq := hq.1 c1
    refine lv_aload_n hE.1 hE.2.1 dX1_mayEnd_7 rfl (lv_at hl 0 rfl) ?_
    refine cgf_X1_31 hE hw dX1_mayEnd_8 ?_
    refine lv_if_ne (tgt := 18) hE.1 hE.2.1 dX1_mayEnd_11 (by decide) (fun c2 => ?_) (fun c2 => ?_)
    · have hq := hq.2 c2
      refine lv_iconst (v := (0 : Int32)) hE.1 hE.2.1 dX1_mayEnd_18 (by decide) ?_
      exact rtZ hE hr hlk rfl hw hq dX1_mayEnd_19
    · have hq := hq.1 c2
      refine lv_iconst (v := (1 : Int32)) hE.1 hE.2.1 dX1_mayEnd_14 (by decide) ?_
      refine lv_goto (tgt := 19) hE.1 hE.2.1 dX1_mayEnd_15 (by decide) ?_
      exact rtZ hE hr hlk rfl hw hq dX1_mayEnd_19
/-! QueueBench$Program.isCondition(I)Z -/
abbrev rm_X6_isCondition : Room := { frames := 0, cells := 0, slots := 0, locals := 0 }
def wp_X6_isCondition (a1 : Int32) (σ : S9) (Φ : Int32 → S9 → Prop) : Prop := vp_in a1 300 ∧ ((σ.2.1 2 (a1).toNatClampNeg) = (63 : Int32) → Φ (1 : Int32) σ) ∧ (¬ (σ.2.1 2 (a1).toNatClampNeg) = (63 : Int32) → vp_in a1 300 ∧ ((σ.2.1 2 (a1).toNatClampNeg) = (42 : Int32) → Φ (1 : Int32) σ) ∧ (¬ (σ.2.1 2 (a1).toNatClampNeg) = (42 : Int32) → Φ (0 : Int32) σ))
theorem dX6_isCondition_0 : decode cX6_isCondition 0 = .ok (.aload_n 0, 1) := by decide +kernel
theorem dX6_isCondition_1 : decode cX6_isCondition 1 = .ok (.getfield 9, 3) := by decide +kernel
theorem dX6_isCondition_4 : decode cX6_isCondition 4 = .ok (.iload_n 1, 1) := by decide +kernel
theorem dX6_isCondition_5 : decode cX6_isCondition 5 = .ok (.caload, 1) := by decide +kernel
theorem dX6_isCondition_6 : decode cX6_isCondition 6 = .ok (.bipush 63, 2) := by decide +kernel
theorem dX6_isCondition_8 : decode cX6_isCondition 8 = .ok (.if_icmp .eq 14, 3) := by decide +kernel
theorem dX6_isCondition_11 : decode cX6_isCondition 11 = .ok (.aload_n 0, 1) := by decide +kernel
theorem dX6_isCondition_12 : decode cX6_isCondition 12 = .ok (.getfield 9, 3) := by decide +kernel
theorem dX6_isCondition_15 : decode cX6_isCondition 15 = .ok (.iload_n 1, 1) := by decide +kernel
theorem dX6_isCondition_16 : decode cX6_isCondition 16 = .ok (.caload, 1) := by decide +kernel
theorem dX6_isCondition_17 : decode cX6_isCondition 17 = .ok (.bipush 42, 2) := by decide +kernel
theorem dX6_isCondition_19 : decode cX6_isCondition 19 = .ok (.if_icmp .ne 7, 3) := by decide +kernel
theorem dX6_isCondition_22 : decode cX6_isCondition 22 = .ok (.iconst 1, 1) := by decide +kernel
theorem dX6_isCondition_23 : decode cX6_isCondition 23 = .ok (.goto 4, 3) := by decide +kernel
theorem dX6_isCondition_26 : decode cX6_isCondition 26 = .ok (.iconst 0, 1) := by decide +kernel
theorem dX6_isCondition_27 : decode cX6_isCondition 27 = .ok (.ireturn, 1) := by decide +kernel
set_option maxRecDepth 20000 in
set_option maxHeartbeats 4000000 in
theorem c_X6_isCondition {G : GG} (hJ : gJ 40 G) (l : Launch) (a1 : Int32) (σ : S9) (Φ : Int32 → S9 → Prop) (hq : wp_X6_isCondition a1 σ Φ) : CI cwl 40 G l yX6_isCondition cX6_isCondition 2 (some .boolean) rm_X6_isCondition [.ref (gAd G 3), .int a1] σ Φ := by
  refine CI.intro (by decide) (Nat.le_of_ble_eq_true rfl) hJ ?_
  intro p e s m args below meth c ls hE hml hr hlk hw hl
  have hl : lv_has ls 2 [(0, .ref (gAd G 3)), (1, .int a1)] := hl
  unfold wp_X6_isCondition at hq
  refine lv_aload_n hE.1 hE.2.1 dX6_isCondition_0 rfl (lv_at hl 0 rfl) ?_
  refine cgf_X6_9 hE hw dX6_isCondition_1 ?_
  refine lv_iload_n hE.1 hE.2.1 dX6_isCondition_4 rfl (lv_at hl 1 rfl) ?_
  obtain ⟨hi1, hq⟩ := hq
  refine cal_14 hE hw hi1 dX6_isCondition_5 ?_
  refine lv_bipush (v := (63 : Int32)) hE.1 hE.2.1 dX6_isCondition_6 (by decide) ?_
  refine lv_icmp_eq (tgt := 22) hE.1 hE.2.1 dX6_isCondition_8 (by decide) (fun c2 => ?_) (fun c2 => ?_)
  · have hq := hq.1 c2
    refine lv_iconst (v := (1 : Int32)) hE.1 hE.2.1 dX6_isCondition_22 (by decide) ?_
    refine lv_goto (tgt := 27) hE.1 hE.2.1 dX6_isCondition_23 (by decide) ?_
    exact rtZ hE hr hlk rfl hw hq dX6_isCondition_27
  · have hq := hq.2 c2
    refine lv_aload_n hE.1 hE.2.1 dX6_isCondition_11 rfl (lv_at hl 0 rfl) ?_
    refine cgf_X6_9 hE hw dX6_isCondition_12 ?_
    refine lv_iload_n hE.1 hE.2.1 dX6_isCondition_15 rfl (lv_at hl 1 rfl) ?_
    obtain ⟨hi3, hq⟩ := hq
    refine cal_14 hE hw hi3 dX6_isCondition_16 ?_
    refine lv_bipush (v := (42 : Int32)) hE.1 hE.2.1 dX6_isCondition_17 (by decide) ?_
    refine lv_icmp_ne (tgt := 26) hE.1 hE.2.1 dX6_isCondition_19 (by decide) (fun c4 => ?_) (fun c4 => ?_)
    · have hq := hq.2 c4
      refine lv_iconst (v := (0 : Int32)) hE.1 hE.2.1 dX6_isCondition_26 (by decide) ?_
      exact rtZ hE hr hlk rfl hw hq dX6_isCondition_27
    · have hq := hq.1 c4
      refine lv_iconst (v := (1 : Int32)) hE.1 hE.2.1 dX6_isCondition_22 (by decide) ?_
      refine lv_goto (tgt := 27) hE.1 hE.2.1 dX6_isCondition_23 (by decide) ?_
      exact rtZ hE hr hlk rfl hw hq dX6_isCondition_27
/-! QueueBench$Compiler.endsExpression(C)Z -/
abbrev rm_X0_endsExpression : Room := { frames := 1, cells := 0, slots := 0, locals := 21 }
def wp_X0_endsExpression_b32  (Φ : Int32 → S9 → Prop) (t0 : Int32) (t1 : Int32) (σ : S9) : Prop := (t1 = t0 → Φ (1 : Int32) σ) ∧ (¬ t1 = t0 → Φ (0 : Int32) σ)
def wp_X0_endsExpression (a1 : Int32) (σ : S9) (Φ : Int32 → S9 → Prop) : Prop := wp_X1_mayEnd σ (fun r1 σ1 => (r1 = 0 → Φ (0 : Int32) σ1) ∧ (¬ r1 = 0 → wp_X6_isCondition (σ1.1 9) σ1 (fun r3 σ2 => (r3 = 0 → wp_X0_endsExpression_b32  Φ (59 : Int32) a1 σ2) ∧ (¬ r3 = 0 → wp_X0_endsExpression_b32  Φ (123 : Int32) a1 σ2))))
theorem dX0_endsExpression_0 : decode cX0_endsExpression 0 = .ok (.aload_n 0, 1) := by decide +kernel
theorem dX0_endsExpression_1 : decode cX0_endsExpression 1 = .ok (.getfield 43, 3) := by decide +kernel
theorem dX0_endsExpression_4 : decode cX0_endsExpression 4 = .ok (.invokevirtual 103, 3) := by decide +kernel
theorem dX0_endsExpression_7 : decode cX0_endsExpression 7 = .ok (.ifCond .eq 32, 3) := by decide +kernel
theorem dX0_endsExpression_10 : decode cX0_endsExpression 10 = .ok (.iload_n 1, 1) := by decide +kernel
theorem dX0_endsExpression_11 : decode cX0_endsExpression 11 = .ok (.aload_n 0, 1) := by decide +kernel
theorem dX0_endsExpression_12 : decode cX0_endsExpression 12 = .ok (.getfield 34, 3) := by decide +kernel
theorem dX0_endsExpression_15 : decode cX0_endsExpression 15 = .ok (.aload_n 0, 1) := by decide +kernel
theorem dX0_endsExpression_16 : decode cX0_endsExpression 16 = .ok (.getfield 143, 3) := by decide +kernel
theorem dX0_endsExpression_19 : decode cX0_endsExpression 19 = .ok (.invokevirtual 164, 3) := by decide +kernel
theorem dX0_endsExpression_22 : decode cX0_endsExpression 22 = .ok (.ifCond .eq 8, 3) := by decide +kernel
theorem dX0_endsExpression_25 : decode cX0_endsExpression 25 = .ok (.bipush 123, 2) := by decide +kernel
theorem dX0_endsExpression_27 : decode cX0_endsExpression 27 = .ok (.goto 5, 3) := by decide +kernel
theorem dX0_endsExpression_30 : decode cX0_endsExpression 30 = .ok (.bipush 59, 2) := by decide +kernel
theorem dX0_endsExpression_32 : decode cX0_endsExpression 32 = .ok (.if_icmp .ne 7, 3) := by decide +kernel
theorem dX0_endsExpression_35 : decode cX0_endsExpression 35 = .ok (.iconst 1, 1) := by decide +kernel
theorem dX0_endsExpression_36 : decode cX0_endsExpression 36 = .ok (.goto 4, 3) := by decide +kernel
theorem dX0_endsExpression_39 : decode cX0_endsExpression 39 = .ok (.iconst 0, 1) := by decide +kernel
theorem dX0_endsExpression_40 : decode cX0_endsExpression 40 = .ok (.ireturn, 1) := by decide +kernel
set_option maxRecDepth 20000 in
set_option maxHeartbeats 4000000 in
theorem tb_X0_endsExpression_b32 {p : Program} {l : Launch} {e : Env} {s : State} {m : MethodId} {args : Array Value} {below : List Frame} {meth : Method} {c : Code} {G : GG} {Φ : Int32 → S9 → Prop}  (hE : Ev 40 G p s m args c cX0_endsExpression RX0) (hml : c.maxLocals = 2) (hr : meth.sig.returnType = (some .boolean)) (hlk : meth.locks = false)  {t0 : Int32} {t1 : Int32} {σ : S9} {H : Heap} {locs : List Loc} {ls : Array Slot} (hq : wp_X0_endsExpression_b32  Φ t0 t1 σ) (hw : Pic cwl 40 G σ s.heap H locs) (hl : lv_has ls 2 []) : W p l e rm_X0_endsExpression s m args below meth c H locs 0 0 (QI cwl 40 G below args s Φ) (F0 m 32 ls [.int t0, .int t1]) := by
  unfold wp_X0_endsExpression_b32 at hq
  refine lv_icmp_ne (tgt := 39) hE.1 hE.2.1 dX0_endsExpression_32 (by decide) (fun c1 => ?_) (fun c1 => ?_)
  · have hq := hq.2 c1
    refine lv_iconst (v := (0 : Int32)) hE.1 hE.2.1 dX0_endsExpression_39 (by decide) ?_
    exact rtZ hE hr hlk rfl hw hq dX0_endsExpression_40
  · have hq := hq.1 c1
    refine lv_iconst (v := (1 : Int32)) hE.1 hE.2.1 dX0_endsExpression_35 (by decide) ?_
    refine lv_goto (tgt := 40) hE.1 hE.2.1 dX0_endsExpression_36 (by decide) ?_
    exact rtZ hE hr hlk rfl hw hq dX0_endsExpression_40
set_option maxRecDepth 20000 in
set_option maxHeartbeats 4000000 in
theorem c_X0_endsExpression {G : GG} (hJ : gJ 40 G) (l : Launch) (a1 : Int32) (σ : S9) (Φ : Int32 → S9 → Prop) (hq : wp_X0_endsExpression a1 σ Φ) : CI cwl 40 G l yX0_endsExpression cX0_endsExpression 2 (some .boolean) rm_X0_endsExpression [.ref (gAd G 4), .int a1] σ Φ := by
  refine CI.intro (by decide) (Nat.le_of_ble_eq_true rfl) hJ ?_
  intro p e s m args below meth c ls hE hml hr hlk hw hl
  have hl : lv_has ls 2 [(0, .ref (gAd G 4)), (1, .int a1)] := hl
  unfold wp_X0_endsExpression at hq
  refine lv_aload_n hE.1 hE.2.1 dX0_endsExpression_0 rfl (lv_at hl 0 rfl) ?_
  refine cgf_X0_43 hE hw dX0_endsExpression_1 ?_
  refine clVi (rest := []) (As := []) hE hml hl.1 hw (c_X1_mayEnd hE.2.2.2.2.2 l _ _ hq) cu304 cu305 cu306 cu307 cu213 rfl (k := 0) (by decide +kernel) (by decide) (ci := 1) rfl (q0 := 6) rfl rfl rfl (Nat.le_of_ble_eq_true rfl) dX0_endsExpression_4 (by decide) (fun r1 σ1 hq H locs hw => ?_)
  refine lv_if_eq (tgt := 39) hE.1 hE.2.1 dX0_endsExpression_7 (by decide) (fun c2 => ?_) (fun c2 => ?_)
  · have hq := hq.1 c2
    refine lv_iconst (v := (0 : Int32)) hE.1 hE.2.1 dX0_endsExpression_39 (by decide) ?_
    exact rtZ hE hr hlk rfl hw hq dX0_endsExpression_40
  · have hq := hq.2 c2
    refine lv_iload_n hE.1 hE.2.1 dX0_endsExpression_10 rfl (lv_at hl 1 rfl) ?_
    refine lv_aload_n hE.1 hE.2.1 dX0_endsExpression_11 rfl (lv_at hl 0 rfl) ?_
    refine cgf_X0_34 hE hw dX0_endsExpression_12 ?_
    refine lv_aload_n hE.1 hE.2.1 dX0_endsExpression_15 rfl (lv_at hl 0 rfl) ?_
    refine cgf_X0_143 hE hw dX0_endsExpression_16 ?_
    refine clVi (rest := [.int a1]) (As := [.int (σ1.1 9)]) hE hml hl.1 hw (c_X6_isCondition hE.2.2.2.2.2 l _ _ _ hq) cu308 cu309 cu310 cu311 cu25 rfl (k := 1) (by decide +kernel) (by decide) (ci := 6) rfl (q0 := 3) rfl rfl rfl (Nat.le_of_ble_eq_true rfl) dX0_endsExpression_19 (by decide) (fun r3 σ2 hq H locs hw => ?_)
    refine lv_if_eq (tgt := 30) hE.1 hE.2.1 dX0_endsExpression_22 (by decide) (fun c4 => ?_) (fun c4 => ?_)
    · have hq := hq.1 c4
      refine lv_bipush (v := (59 : Int32)) hE.1 hE.2.1 dX0_endsExpression_30 (by decide) ?_
      exact tb_X0_endsExpression_b32 hE hml hr hlk  hq hw (lv_sub hl [] rfl)
    · have hq := hq.2 c4
      refine lv_bipush (v := (123 : Int32)) hE.1 hE.2.1 dX0_endsExpression_25 (by decide) ?_
      refine lv_goto (tgt := 32) hE.1 hE.2.1 dX0_endsExpression_27 (by decide) ?_
      exact tb_X0_endsExpression_b32 hE hml hr hlk  hq hw (lv_sub hl [] rfl)
/-! QueueBench$Expression.end()V -/
abbrev rm_X1_end : Room := { frames := 2, cells := 0, slots := 0, locals := 44 }
def wp_X1_end  (σ : S9) (Φ : S9 → Prop) : Prop := wp_X1_writeDownTo (1 : Int32) σ (fun σ1 => Φ σ1)
theorem dX1_end_0 : decode cX1_end 0 = .ok (.aload_n 0, 1) := by decide +kernel
theorem dX1_end_1 : decode cX1_end 1 = .ok (.iconst 1, 1) := by decide +kernel
theorem dX1_end_2 : decode cX1_end 2 = .ok (.invokevirtual 41, 3) := by decide +kernel
theorem dX1_end_5 : decode cX1_end 5 = .ok (.return_, 1) := by decide +kernel
set_option maxRecDepth 20000 in
set_option maxHeartbeats 4000000 in
theorem c_X1_end {G : GG} (hJ : gJ 40 G) (l : Launch)  (σ : S9) (Φ : S9 → Prop) (hq : wp_X1_end  σ Φ) : CV cwl 40 G l yX1_end cX1_end 1 rm_X1_end [.ref (gAd G 6)] σ Φ := by
  refine CV.intro (by decide) (Nat.le_of_ble_eq_true rfl) hJ ?_
  intro p e s m args below meth c ls hE hml hr hlk hw hl
  have hl : lv_has ls 1 [(0, .ref (gAd G 6))] := hl
  unfold wp_X1_end at hq
  refine lv_aload_n hE.1 hE.2.1 dX1_end_0 rfl (lv_at hl 0 rfl) ?_
  refine lv_iconst (v := (1 : Int32)) hE.1 hE.2.1 dX1_end_1 (by decide) ?_
  refine clVv (rest := []) (As := [.int (1 : Int32)]) hE hml hl.1 hw (c_X1_writeDownTo hE.2.2.2.2.2 l _ _ _ hq) cu262 cu263 cu264 cu265 cu213 rfl (k := 1) (by decide +kernel) (by decide) (ci := 1) rfl (q0 := 6) rfl rfl rfl (Nat.le_of_ble_eq_true rfl) dX1_end_2 (by decide) (fun σ1 hq H locs hw => ?_)
  exact rtV hE hr hlk hw hq dX1_end_5
/-! QueueBench$Compiler.opensBlock(IZ)Z -/
abbrev rm_X0_opensBlock : Room := { frames := 1, cells := 0, slots := 0, locals := 21 }
def wp_X0_opensBlock (a1 : Int32) (a2 : Int32) (σ : S9) (Φ : Int32 → S9 → Prop) : Prop := ((σ.1 6) = (20 : Int32) → Φ (0 : Int32) σ) ∧ (¬ (σ.1 6) = (20 : Int32) → ∀ σ1 : S9, σ1 = sF σ 6 ((σ.1 6) + (1 : Int32)) → vp_in (σ1.1 6) 21 ∧ ∀ σ2 : S9, σ2 = sA σ1 14 (upd (σ1.2.1 14) ((σ1.1 6)).toNatClampNeg a1) → vp_in (σ2.1 6) 21 ∧ ∀ σ3 : S9, σ3 = sA σ2 15 (upd (σ2.2.1 15) ((σ2.1 6)).toNatClampNeg (vp_nar .boolean a2)) → vp_in (σ3.1 6) 21 ∧ ∀ σ4 : S9, σ4 = sA σ3 16 (upd (σ3.2.1 16) ((σ3.1 6)).toNatClampNeg (-1 : Int32)) → wp_X0_awaits (0 : Int32) σ4 (fun r5 σ5 => narrow .boolean (.int r5) = .int r5 ∧ Φ r5 σ5))
theorem dX0_opensBlock_0 : decode cX0_opensBlock 0 = .ok (.aload_n 0, 1) := by decide +kernel
theorem dX0_opensBlock_1 : decode cX0_opensBlock 1 = .ok (.getfield 83, 3) := by decide +kernel
theorem dX0_opensBlock_4 : decode cX0_opensBlock 4 = .ok (.bipush 20, 2) := by decide +kernel
theorem dX0_opensBlock_6 : decode cX0_opensBlock 6 = .ok (.if_icmp .ne 5, 3) := by decide +kernel
theorem dX0_opensBlock_9 : decode cX0_opensBlock 9 = .ok (.iconst 0, 1) := by decide +kernel
theorem dX0_opensBlock_10 : decode cX0_opensBlock 10 = .ok (.ireturn, 1) := by decide +kernel
theorem dX0_opensBlock_11 : decode cX0_opensBlock 11 = .ok (.aload_n 0, 1) := by decide +kernel
theorem dX0_opensBlock_12 : decode cX0_opensBlock 12 = .ok (.dup, 1) := by decide +kernel
theorem dX0_opensBlock_13 : decode cX0_opensBlock 13 = .ok (.getfield 83, 3) := by decide +kernel
theorem dX0_opensBlock_16 : decode cX0_opensBlock 16 = .ok (.iconst 1, 1) := by decide +kernel
theorem dX0_opensBlock_17 : decode cX0_opensBlock 17 = .ok (.iadd, 1) := by decide +kernel
theorem dX0_opensBlock_18 : decode cX0_opensBlock 18 = .ok (.putfield 83, 3) := by decide +kernel
theorem dX0_opensBlock_21 : decode cX0_opensBlock 21 = .ok (.aload_n 0, 1) := by decide +kernel
theorem dX0_opensBlock_22 : decode cX0_opensBlock 22 = .ok (.getfield 15, 3) := by decide +kernel
theorem dX0_opensBlock_25 : decode cX0_opensBlock 25 = .ok (.aload_n 0, 1) := by decide +kernel
theorem dX0_opensBlock_26 : decode cX0_opensBlock 26 = .ok (.getfield 83, 3) := by decide +kernel
theorem dX0_opensBlock_29 : decode cX0_opensBlock 29 = .ok (.iload_n 1, 1) := by decide +kernel
theorem dX0_opensBlock_30 : decode cX0_opensBlock 30 = .ok (.iastore, 1) := by decide +kernel
theorem dX0_opensBlock_31 : decode cX0_opensBlock 31 = .ok (.aload_n 0, 1) := by decide +kernel
theorem dX0_opensBlock_32 : decode cX0_opensBlock 32 = .ok (.getfield 19, 3) := by decide +kernel
theorem dX0_opensBlock_35 : decode cX0_opensBlock 35 = .ok (.aload_n 0, 1) := by decide +kernel
theorem dX0_opensBlock_36 : decode cX0_opensBlock 36 = .ok (.getfield 83, 3) := by decide +kernel
theorem dX0_opensBlock_39 : decode cX0_opensBlock 39 = .ok (.iload_n 2, 1) := by decide +kernel
theorem dX0_opensBlock_40 : decode cX0_opensBlock 40 = .ok (.bastore, 1) := by decide +kernel
theorem dX0_opensBlock_41 : decode cX0_opensBlock 41 = .ok (.aload_n 0, 1) := by decide +kernel
theorem dX0_opensBlock_42 : decode cX0_opensBlock 42 = .ok (.getfield 22, 3) := by decide +kernel
theorem dX0_opensBlock_45 : decode cX0_opensBlock 45 = .ok (.aload_n 0, 1) := by decide +kernel
theorem dX0_opensBlock_46 : decode cX0_opensBlock 46 = .ok (.getfield 83, 3) := by decide +kernel
theorem dX0_opensBlock_49 : decode cX0_opensBlock 49 = .ok (.iconst (-1), 1) := by decide +kernel
theorem dX0_opensBlock_50 : decode cX0_opensBlock 50 = .ok (.iastore, 1) := by decide +kernel
theorem dX0_opensBlock_51 : decode cX0_opensBlock 51 = .ok (.aload_n 0, 1) := by decide +kernel
theorem dX0_opensBlock_52 : decode cX0_opensBlock 52 = .ok (.iconst 0, 1) := by decide +kernel
theorem dX0_opensBlock_53 : decode cX0_opensBlock 53 = .ok (.invokevirtual 95, 3) := by decide +kernel
theorem dX0_opensBlock_56 : decode cX0_opensBlock 56 = .ok (.ireturn, 1) := by decide +kernel
set_option maxRecDepth 20000 in
set_option maxHeartbeats 4000000 in
theorem c_X0_opensBlock {G : GG} (hJ : gJ 40 G) (l : Launch) (a1 : Int32) (a2 : Int32) (σ : S9) (Φ : Int32 → S9 → Prop) (hq : wp_X0_opensBlock a1 a2 σ Φ) : CI cwl 40 G l yX0_opensBlock cX0_opensBlock 3 (some .boolean) rm_X0_opensBlock [.ref (gAd G 4), .int a1, .int a2] σ Φ := by
  refine CI.intro (by decide) (Nat.le_of_ble_eq_true rfl) hJ ?_
  intro p e s m args below meth c ls hE hml hr hlk hw hl
  have hl : lv_has ls 3 [(0, .ref (gAd G 4)), (1, .int a1), (2, .int a2)] := hl
  unfold wp_X0_opensBlock at hq
  refine lv_aload_n hE.1 hE.2.1 dX0_opensBlock_0 rfl (lv_at hl 0 rfl) ?_
  refine cgf_X0_83 hE hw dX0_opensBlock_1 ?_
  refine lv_bipush (v := (20 : Int32)) hE.1 hE.2.1 dX0_opensBlock_4 (by decide) ?_
  refine lv_icmp_ne (tgt := 11) hE.1 hE.2.1 dX0_opensBlock_6 (by decide) (fun c1 => ?_) (fun c1 => ?_)
  · have hq := hq.2 c1
    refine lv_aload_n hE.1 hE.2.1 dX0_opensBlock_11 rfl (lv_at hl 0 rfl) ?_
    refine lv_dup hE.1 hE.2.1 dX0_opensBlock_12 rfl ?_
    refine cgf_X0_83 hE hw dX0_opensBlock_13 ?_
    refine lv_iconst (v := (1 : Int32)) hE.1 hE.2.1 dX0_opensBlock_16 (by decide) ?_
    refine lv_iadd hE.1 hE.2.1 dX0_opensBlock_17 ?_
    refine cpf_X0_83 hE hw dX0_opensBlock_18 (fun σ1 eσ1 H locs hw => ?_)
    have hq := hq σ1 eσ1
    refine lv_aload_n hE.1 hE.2.1 dX0_opensBlock_21 rfl (lv_at hl 0 rfl) ?_
    refine cgf_X0_15 hE hw dX0_opensBlock_22 ?_
    refine lv_aload_n hE.1 hE.2.1 dX0_opensBlock_25 rfl (lv_at hl 0 rfl) ?_
    refine cgf_X0_83 hE hw dX0_opensBlock_26 ?_
    refine lv_iload_n hE.1 hE.2.1 dX0_opensBlock_29 rfl (lv_at hl 1 rfl) ?_
    obtain ⟨hi2, hq⟩ := hq
    refine cas_26 hE hw hi2 dX0_opensBlock_30 (fun σ2 eσ2 H locs hw => ?_)
    have hq := hq σ2 eσ2
    refine lv_aload_n hE.1 hE.2.1 dX0_opensBlock_31 rfl (lv_at hl 0 rfl) ?_
    refine cgf_X0_19 hE hw dX0_opensBlock_32 ?_
    refine lv_aload_n hE.1 hE.2.1 dX0_opensBlock_35 rfl (lv_at hl 0 rfl) ?_
    refine cgf_X0_83 hE hw dX0_opensBlock_36 ?_
    refine lv_iload_n hE.1 hE.2.1 dX0_opensBlock_39 rfl (lv_at hl 2 rfl) ?_
    obtain ⟨hi3, hq⟩ := hq
    refine cas_27 hE hw hi3 dX0_opensBlock_40 (fun σ3 eσ3 H locs hw => ?_)
    have hq := hq σ3 eσ3
    refine lv_aload_n hE.1 hE.2.1 dX0_opensBlock_41 rfl (lv_at hl 0 rfl) ?_
    refine cgf_X0_22 hE hw dX0_opensBlock_42 ?_
    refine lv_aload_n hE.1 hE.2.1 dX0_opensBlock_45 rfl (lv_at hl 0 rfl) ?_
    refine cgf_X0_83 hE hw dX0_opensBlock_46 ?_
    refine lv_iconst (v := (-1 : Int32)) hE.1 hE.2.1 dX0_opensBlock_49 (by decide) ?_
    obtain ⟨hi4, hq⟩ := hq
    refine cas_28 hE hw hi4 dX0_opensBlock_50 (fun σ4 eσ4 H locs hw => ?_)
    have hq := hq σ4 eσ4
    refine lv_aload_n hE.1 hE.2.1 dX0_opensBlock_51 rfl (lv_at hl 0 rfl) ?_
    refine lv_iconst (v := (0 : Int32)) hE.1 hE.2.1 dX0_opensBlock_52 (by decide) ?_
    refine clVi (rest := []) (As := [.int (0 : Int32)]) hE hml hl.1 hw (c_X0_awaits hE.2.2.2.2.2 l _ _ _ hq) cu221 cu222 cu223 cu224 cu138 rfl (k := 1) (by decide +kernel) (by decide) (ci := 0) rfl (q0 := 4) rfl rfl rfl (Nat.le_of_ble_eq_true rfl) dX0_opensBlock_53 (by decide) (fun r5 σ5 hq H locs hw => ?_)
    exact rtZ hE hr hlk hq.1 hw hq.2 dX0_opensBlock_56
  · have hq := hq.1 c1
    refine lv_iconst (v := (0 : Int32)) hE.1 hE.2.1 dX0_opensBlock_9 (by decide) ?_
    exact rtZ hE hr hlk rfl hw hq dX0_opensBlock_10
/-! QueueBench$Compiler.closesExpression(C)Z -/
abbrev rm_X0_closesExpression : Room := { frames := 3, cells := 0, slots := 0, locals := 64 }
def wp_X0_closesExpression (a1 : Int32) (σ : S9) (Φ : Int32 → S9 → Prop) : Prop := wp_X1_end σ (fun σ1 => (a1 = (123 : Int32) → wp_X0_opensBlock (σ1.1 9) (0 : Int32) σ1 (fun r3 σ3 => narrow .boolean (.int r3) = .int r3 ∧ Φ r3 σ3)) ∧ (¬ a1 = (123 : Int32) → wp_X0_awaits (0 : Int32) σ1 (fun r2 σ2 => narrow .boolean (.int r2) = .int r2 ∧ Φ r2 σ2)))
theorem dX0_closesExpression_0 : decode cX0_closesExpression 0 = .ok (.aload_n 0, 1) := by decide +kernel
theorem dX0_closesExpression_1 : decode cX0_closesExpression 1 = .ok (.getfield 43, 3) := by decide +kernel
theorem dX0_closesExpression_4 : decode cX0_closesExpression 4 = .ok (.invokevirtual 167, 3) := by decide +kernel
theorem dX0_closesExpression_7 : decode cX0_closesExpression 7 = .ok (.iload_n 1, 1) := by decide +kernel
theorem dX0_closesExpression_8 : decode cX0_closesExpression 8 = .ok (.bipush 123, 2) := by decide +kernel
theorem dX0_closesExpression_10 : decode cX0_closesExpression 10 = .ok (.if_icmp .ne 15, 3) := by decide +kernel
theorem dX0_closesExpression_13 : decode cX0_closesExpression 13 = .ok (.aload_n 0, 1) := by decide +kernel
theorem dX0_closesExpression_14 : decode cX0_closesExpression 14 = .ok (.aload_n 0, 1) := by decide +kernel
theorem dX0_closesExpression_15 : decode cX0_closesExpression 15 = .ok (.getfield 143, 3) := by decide +kernel
theorem dX0_closesExpression_18 : decode cX0_closesExpression 18 = .ok (.iconst 0, 1) := by decide +kernel
theorem dX0_closesExpression_19 : decode cX0_closesExpression 19 = .ok (.invokevirtual 110, 3) := by decide +kernel
theorem dX0_closesExpression_22 : decode cX0_closesExpression 22 = .ok (.goto 8, 3) := by decide +kernel
theorem dX0_closesExpression_25 : decode cX0_closesExpression 25 = .ok (.aload_n 0, 1) := by decide +kernel
theorem dX0_closesExpression_26 : decode cX0_closesExpression 26 = .ok (.iconst 0, 1) := by decide +kernel
theorem dX0_closesExpression_27 : decode cX0_closesExpression 27 = .ok (.invokevirtual 95, 3) := by decide +kernel
theorem dX0_closesExpression_30 : decode cX0_closesExpression 30 = .ok (.ireturn, 1) := by decide +kernel
set_option maxRecDepth 20000 in
set_option maxHeartbeats 4000000 in
theorem c_X0_closesExpression {G : GG} (hJ : gJ 40 G) (l : Launch) (a1 : Int32) (σ : S9) (Φ : Int32 → S9 → Prop) (hq : wp_X0_closesExpression a1 σ Φ) : CI cwl 40 G l yX0_closesExpression cX0_closesExpression 2 (some .boolean) rm_X0_closesExpression [.ref (gAd G 4), .int a1] σ Φ := by
  refine CI.intro (by decide) (Nat.le_of_ble_eq_true rfl) hJ ?_
  intro p e s m args below meth c ls hE hml hr hlk hw hl
  have hl : lv_has ls 2 [(0, .ref (gAd G 4)), (1, .int a1)] := hl
  unfold wp_X0_closesExpression at hq
  refine lv_aload_n hE.1 hE.2.1 dX0_closesExpression_0 rfl (lv_at hl 0 rfl) ?_
  refine cgf_X0_43 hE hw dX0_closesExpression_1 ?_
  refine clVv (rest := []) (As := []) hE hml hl.1 hw (c_X1_end hE.2.2.2.2.2 l _ _ hq) cu316 cu317 cu318 cu319 cu213 rfl (k := 0) (by decide +kernel) (by decide) (ci := 1) rfl (q0 := 6) rfl rfl rfl (Nat.le_of_ble_eq_true rfl) dX0_closesExpression_4 (by decide) (fun σ1 hq H locs hw => ?_)
  refine lv_iload_n hE.1 hE.2.1 dX0_closesExpression_7 rfl (lv_at hl 1 rfl) ?_
  refine lv_bipush (v := (123 : Int32)) hE.1 hE.2.1 dX0_closesExpression_8 (by decide) ?_
  refine lv_icmp_ne (tgt := 25) hE.1 hE.2.1 dX0_closesExpression_10 (by decide) (fun c1 => ?_) (fun c1 => ?_)
  · have hq := hq.2 c1
    refine lv_aload_n hE.1 hE.2.1 dX0_closesExpression_25 rfl (lv_at hl 0 rfl) ?_
    refine lv_iconst (v := (0 : Int32)) hE.1 hE.2.1 dX0_closesExpression_26 (by decide) ?_
    refine clVi (rest := []) (As := [.int (0 : Int32)]) hE hml hl.1 hw (c_X0_awaits hE.2.2.2.2.2 l _ _ _ hq) cu221 cu222 cu223 cu224 cu138 rfl (k := 1) (by decide +kernel) (by decide) (ci := 0) rfl (q0 := 4) rfl rfl rfl (Nat.le_of_ble_eq_true rfl) dX0_closesExpression_27 (by decide) (fun r2 σ2 hq H locs hw => ?_)
    exact rtZ hE hr hlk hq.1 hw hq.2 dX0_closesExpression_30
  · have hq := hq.1 c1
    refine lv_aload_n hE.1 hE.2.1 dX0_closesExpression_13 rfl (lv_at hl 0 rfl) ?_
    refine lv_aload_n hE.1 hE.2.1 dX0_closesExpression_14 rfl (lv_at hl 0 rfl) ?_
    refine cgf_X0_143 hE hw dX0_closesExpression_15 ?_
    refine lv_iconst (v := (0 : Int32)) hE.1 hE.2.1 dX0_closesExpression_18 (by decide) ?_
    refine clVi (rest := []) (As := [.int (σ1.1 9), .int (0 : Int32)]) hE hml hl.1 hw (c_X0_opensBlock hE.2.2.2.2.2 l _ _ _ _ hq) cu320 cu321 cu322 cu323 cu138 rfl (k := 2) (by decide +kernel) (by decide) (ci := 0) rfl (q0 := 4) rfl rfl rfl (Nat.le_of_ble_eq_true rfl) dX0_closesExpression_19 (by decide) (fun r3 σ3 hq H locs hw => ?_)
    refine lv_goto (tgt := 30) hE.1 hE.2.1 dX0_closesExpression_22 (by decide) ?_
    exact rtZ hE hr hlk hq.1 hw hq.2 dX0_closesExpression_30
/-! QueueBench$Compiler.takes(C)Z -/
abbrev rm_X0_takes : Room := { frames := 5, cells := 0, slots := 0, locals := 110 }
def wp_X0_takes_b121  (Φ : Int32 → S9 → Prop) (t0 : Int32) (σ : S9) : Prop := wp_X0_awaits t0 σ (fun r1 σ1 => (r1 = 0 → Φ (0 : Int32) σ1) ∧ (¬ r1 = 0 → Φ (1 : Int32) σ1))
def wp_X0_takes (a1 : Int32) (σ : S9) (Φ : Int32 → S9 → Prop) : Prop := ((σ.1 7) = (0 : Int32) → wp_X0_beginsStatement a1 σ (fun r2 σ1 => narrow .boolean (.int r2) = .int r2 ∧ Φ r2 σ1)) ∧ (¬ (σ.1 7) = (0 : Int32) → ((σ.1 7) = (1 : Int32) → (a1 = (58 : Int32) → wp_X0_awaits (7 : Int32) σ (fun r6 σ3 => narrow .boolean (.int r6) = .int r6 ∧ Φ r6 σ3)) ∧ (¬ a1 = (58 : Int32) → wp_X0_beginsStatement a1 σ (fun r5 σ2 => narrow .boolean (.int r5) = .int r5 ∧ Φ r5 σ2))) ∧ (¬ (σ.1 7) = (1 : Int32) → ((σ.1 7) = (2 : Int32) → (a1 = (61 : Int32) → wp_X0_awaitsValue σ (fun r9 σ4 => (r9 = 0 → Φ (0 : Int32) σ4) ∧ (¬ r9 = 0 → Φ (1 : Int32) σ4))) ∧ (¬ a1 = (61 : Int32) → Φ (0 : Int32) σ)) ∧ (¬ (σ.1 7) = (2 : Int32) → ((σ.1 7) = (3 : Int32) → wp_X1_takes a1 σ (fun r12 σ5 => (r12 = 0 → Φ (0 : Int32) σ5) ∧ (¬ r12 = 0 → wp_X1_mayEnd σ5 (fun r14 σ6 => (r14 = 0 → wp_X0_takes_b121  Φ (3 : Int32) σ6) ∧ (¬ r14 = 0 → wp_X0_takes_b121  Φ (2 : Int32) σ6))))) ∧ (¬ (σ.1 7) = (3 : Int32) → ((σ.1 7) = (4 : Int32) → wp_X0_endsExpression a1 σ (fun r17 σ7 => (r17 = 0 → wp_X1_takes a1 σ7 (fun r19 σ8 => narrow .boolean (.int r19) = .int r19 ∧ Φ r19 σ8)) ∧ (¬ r17 = 0 → wp_X0_closesExpression a1 σ7 (fun r20 σ9 => narrow .boolean (.int r20) = .int r20 ∧ Φ r20 σ9)))) ∧ (¬ (σ.1 7) = (4 : Int32) → ((σ.1 7) = (5 : Int32) → (a1 = (59 : Int32) → wp_X0_awaits (0 : Int32) σ (fun r23 σ10 => (r23 = 0 → Φ (0 : Int32) σ10) ∧ (¬ r23 = 0 → Φ (1 : Int32) σ10))) ∧ (¬ a1 = (59 : Int32) → Φ (0 : Int32) σ)) ∧ (¬ (σ.1 7) = (5 : Int32) → ((σ.1 7) = (6 : Int32) → (a1 = (123 : Int32) → wp_X0_opensBlock (-1 : Int32) (0 : Int32) σ (fun r27 σ11 => (r27 = 0 → Φ (0 : Int32) σ11) ∧ (¬ r27 = 0 → Φ (1 : Int32) σ11))) ∧ (¬ a1 = (123 : Int32) → Φ (0 : Int32) σ)) ∧ (¬ (σ.1 7) = (6 : Int32) → (a1 = (123 : Int32) → vp_in (σ.1 6) 21 ∧ wp_X0_opensBlock (σ.2.1 16 ((σ.1 6)).toNatClampNeg) (1 : Int32) σ (fun r31 σ12 => (r31 = 0 → Φ (0 : Int32) σ12) ∧ (¬ r31 = 0 → Φ (1 : Int32) σ12))) ∧ (¬ a1 = (123 : Int32) → Φ (0 : Int32) σ))))))))
theorem dX0_takes_0 : decode cX0_takes 0 = .ok (.aload_n 0, 1) := by decide +kernel
theorem dX0_takes_1 : decode cX0_takes 1 = .ok (.getfield 86, 3) := by decide +kernel
theorem dX0_takes_4 : decode cX0_takes 4 = .ok (.tableswitch 195 0 6 #[44, 50, 71, 90, 129, 154, 174], 44) := by decide +kernel
theorem dX0_takes_48 : decode cX0_takes 48 = .ok (.aload_n 0, 1) := by decide +kernel
theorem dX0_takes_49 : decode cX0_takes 49 = .ok (.iload_n 1, 1) := by decide +kernel
theorem dX0_takes_50 : decode cX0_takes 50 = .ok (.invokevirtual 92, 3) := by decide +kernel
theorem dX0_takes_53 : decode cX0_takes 53 = .ok (.ireturn, 1) := by decide +kernel
theorem dX0_takes_54 : decode cX0_takes 54 = .ok (.iload_n 1, 1) := by decide +kernel
theorem dX0_takes_55 : decode cX0_takes 55 = .ok (.bipush 58, 2) := by decide +kernel
theorem dX0_takes_57 : decode cX0_takes 57 = .ok (.if_icmp .ne 12, 3) := by decide +kernel
theorem dX0_takes_60 : decode cX0_takes 60 = .ok (.aload_n 0, 1) := by decide +kernel
theorem dX0_takes_61 : decode cX0_takes 61 = .ok (.bipush 7, 2) := by decide +kernel
theorem dX0_takes_63 : decode cX0_takes 63 = .ok (.invokevirtual 95, 3) := by decide +kernel
theorem dX0_takes_66 : decode cX0_takes 66 = .ok (.goto 8, 3) := by decide +kernel
theorem dX0_takes_69 : decode cX0_takes 69 = .ok (.aload_n 0, 1) := by decide +kernel
theorem dX0_takes_70 : decode cX0_takes 70 = .ok (.iload_n 1, 1) := by decide +kernel
theorem dX0_takes_71 : decode cX0_takes 71 = .ok (.invokevirtual 92, 3) := by decide +kernel
theorem dX0_takes_74 : decode cX0_takes 74 = .ok (.ireturn, 1) := by decide +kernel
theorem dX0_takes_75 : decode cX0_takes 75 = .ok (.iload_n 1, 1) := by decide +kernel
theorem dX0_takes_76 : decode cX0_takes 76 = .ok (.bipush 61, 2) := by decide +kernel
theorem dX0_takes_78 : decode cX0_takes 78 = .ok (.if_icmp .ne 14, 3) := by decide +kernel
theorem dX0_takes_81 : decode cX0_takes 81 = .ok (.aload_n 0, 1) := by decide +kernel
theorem dX0_takes_82 : decode cX0_takes 82 = .ok (.invokevirtual 99, 3) := by decide +kernel
theorem dX0_takes_85 : decode cX0_takes 85 = .ok (.ifCond .eq 7, 3) := by decide +kernel
theorem dX0_takes_88 : decode cX0_takes 88 = .ok (.iconst 1, 1) := by decide +kernel
theorem dX0_takes_89 : decode cX0_takes 89 = .ok (.goto 4, 3) := by decide +kernel
theorem dX0_takes_92 : decode cX0_takes 92 = .ok (.iconst 0, 1) := by decide +kernel
theorem dX0_takes_93 : decode cX0_takes 93 = .ok (.ireturn, 1) := by decide +kernel
theorem dX0_takes_94 : decode cX0_takes 94 = .ok (.aload_n 0, 1) := by decide +kernel
theorem dX0_takes_95 : decode cX0_takes 95 = .ok (.getfield 43, 3) := by decide +kernel
theorem dX0_takes_98 : decode cX0_takes 98 = .ok (.iload_n 1, 1) := by decide +kernel
theorem dX0_takes_99 : decode cX0_takes 99 = .ok (.invokevirtual 102, 3) := by decide +kernel
theorem dX0_takes_102 : decode cX0_takes 102 = .ok (.ifCond .eq 29, 3) := by decide +kernel
theorem dX0_takes_105 : decode cX0_takes 105 = .ok (.aload_n 0, 1) := by decide +kernel
theorem dX0_takes_106 : decode cX0_takes 106 = .ok (.aload_n 0, 1) := by decide +kernel
theorem dX0_takes_107 : decode cX0_takes 107 = .ok (.getfield 43, 3) := by decide +kernel
theorem dX0_takes_110 : decode cX0_takes 110 = .ok (.invokevirtual 103, 3) := by decide +kernel
theorem dX0_takes_113 : decode cX0_takes 113 = .ok (.ifCond .eq 7, 3) := by decide +kernel
theorem dX0_takes_116 : decode cX0_takes 116 = .ok (.iconst 2, 1) := by decide +kernel
theorem dX0_takes_117 : decode cX0_takes 117 = .ok (.goto 4, 3) := by decide +kernel
theorem dX0_takes_120 : decode cX0_takes 120 = .ok (.iconst 3, 1) := by decide +kernel
theorem dX0_takes_121 : decode cX0_takes 121 = .ok (.invokevirtual 95, 3) := by decide +kernel
theorem dX0_takes_124 : decode cX0_takes 124 = .ok (.ifCond .eq 7, 3) := by decide +kernel
theorem dX0_takes_127 : decode cX0_takes 127 = .ok (.iconst 1, 1) := by decide +kernel
theorem dX0_takes_128 : decode cX0_takes 128 = .ok (.goto 4, 3) := by decide +kernel
theorem dX0_takes_131 : decode cX0_takes 131 = .ok (.iconst 0, 1) := by decide +kernel
theorem dX0_takes_132 : decode cX0_takes 132 = .ok (.ireturn, 1) := by decide +kernel
theorem dX0_takes_133 : decode cX0_takes 133 = .ok (.aload_n 0, 1) := by decide +kernel
theorem dX0_takes_134 : decode cX0_takes 134 = .ok (.iload_n 1, 1) := by decide +kernel
theorem dX0_takes_135 : decode cX0_takes 135 = .ok (.invokevirtual 104, 3) := by decide +kernel
theorem dX0_takes_138 : decode cX0_takes 138 = .ok (.ifCond .eq 11, 3) := by decide +kernel
theorem dX0_takes_141 : decode cX0_takes 141 = .ok (.aload_n 0, 1) := by decide +kernel
theorem dX0_takes_142 : decode cX0_takes 142 = .ok (.iload_n 1, 1) := by decide +kernel
theorem dX0_takes_143 : decode cX0_takes 143 = .ok (.invokevirtual 107, 3) := by decide +kernel
theorem dX0_takes_146 : decode cX0_takes 146 = .ok (.goto 11, 3) := by decide +kernel
theorem dX0_takes_149 : decode cX0_takes 149 = .ok (.aload_n 0, 1) := by decide +kernel
theorem dX0_takes_150 : decode cX0_takes 150 = .ok (.getfield 43, 3) := by decide +kernel
theorem dX0_takes_153 : decode cX0_takes 153 = .ok (.iload_n 1, 1) := by decide +kernel
theorem dX0_takes_154 : decode cX0_takes 154 = .ok (.invokevirtual 102, 3) := by decide +kernel
theorem dX0_takes_157 : decode cX0_takes 157 = .ok (.ireturn, 1) := by decide +kernel
theorem dX0_takes_158 : decode cX0_takes 158 = .ok (.iload_n 1, 1) := by decide +kernel
theorem dX0_takes_159 : decode cX0_takes 159 = .ok (.bipush 59, 2) := by decide +kernel
theorem dX0_takes_161 : decode cX0_takes 161 = .ok (.if_icmp .ne 15, 3) := by decide +kernel
theorem dX0_takes_164 : decode cX0_takes 164 = .ok (.aload_n 0, 1) := by decide +kernel
theorem dX0_takes_165 : decode cX0_takes 165 = .ok (.iconst 0, 1) := by decide +kernel
theorem dX0_takes_166 : decode cX0_takes 166 = .ok (.invokevirtual 95, 3) := by decide +kernel
theorem dX0_takes_169 : decode cX0_takes 169 = .ok (.ifCond .eq 7, 3) := by decide +kernel
theorem dX0_takes_172 : decode cX0_takes 172 = .ok (.iconst 1, 1) := by decide +kernel
theorem dX0_takes_173 : decode cX0_takes 173 = .ok (.goto 4, 3) := by decide +kernel
theorem dX0_takes_176 : decode cX0_takes 176 = .ok (.iconst 0, 1) := by decide +kernel
theorem dX0_takes_177 : decode cX0_takes 177 = .ok (.ireturn, 1) := by decide +kernel
theorem dX0_takes_178 : decode cX0_takes 178 = .ok (.iload_n 1, 1) := by decide +kernel
theorem dX0_takes_179 : decode cX0_takes 179 = .ok (.bipush 123, 2) := by decide +kernel
theorem dX0_takes_181 : decode cX0_takes 181 = .ok (.if_icmp .ne 16, 3) := by decide +kernel
theorem dX0_takes_184 : decode cX0_takes 184 = .ok (.aload_n 0, 1) := by decide +kernel
theorem dX0_takes_185 : decode cX0_takes 185 = .ok (.iconst (-1), 1) := by decide +kernel
theorem dX0_takes_186 : decode cX0_takes 186 = .ok (.iconst 0, 1) := by decide +kernel
theorem dX0_takes_187 : decode cX0_takes 187 = .ok (.invokevirtual 110, 3) := by decide +kernel
theorem dX0_takes_190 : decode cX0_takes 190 = .ok (.ifCond .eq 7, 3) := by decide +kernel
theorem dX0_takes_193 : decode cX0_takes 193 = .ok (.iconst 1, 1) := by decide +kernel
theorem dX0_takes_194 : decode cX0_takes 194 = .ok (.goto 4, 3) := by decide +kernel
theorem dX0_takes_197 : decode cX0_takes 197 = .ok (.iconst 0, 1) := by decide +kernel
theorem dX0_takes_198 : decode cX0_takes 198 = .ok (.ireturn, 1) := by decide +kernel
theorem dX0_takes_199 : decode cX0_takes 199 = .ok (.iload_n 1, 1) := by decide +kernel
theorem dX0_takes_200 : decode cX0_takes 200 = .ok (.bipush 123, 2) := by decide +kernel
theorem dX0_takes_202 : decode cX0_takes 202 = .ok (.if_icmp .ne 24, 3) := by decide +kernel
theorem dX0_takes_205 : decode cX0_takes 205 = .ok (.aload_n 0, 1) := by decide +kernel
theorem dX0_takes_206 : decode cX0_takes 206 = .ok (.aload_n 0, 1) := by decide +kernel
theorem dX0_takes_207 : decode cX0_takes 207 = .ok (.getfield 22, 3) := by decide +kernel
theorem dX0_takes_210 : decode cX0_takes 210 = .ok (.aload_n 0, 1) := by decide +kernel
theorem dX0_takes_211 : decode cX0_takes 211 = .ok (.getfield 83, 3) := by decide +kernel
theorem dX0_takes_214 : decode cX0_takes 214 = .ok (.iaload, 1) := by decide +kernel
theorem dX0_takes_215 : decode cX0_takes 215 = .ok (.iconst 1, 1) := by decide +kernel
theorem dX0_takes_216 : decode cX0_takes 216 = .ok (.invokevirtual 110, 3) := by decide +kernel
theorem dX0_takes_219 : decode cX0_takes 219 = .ok (.ifCond .eq 7, 3) := by decide +kernel
theorem dX0_takes_222 : decode cX0_takes 222 = .ok (.iconst 1, 1) := by decide +kernel
theorem dX0_takes_223 : decode cX0_takes 223 = .ok (.goto 4, 3) := by decide +kernel
theorem dX0_takes_226 : decode cX0_takes 226 = .ok (.iconst 0, 1) := by decide +kernel
theorem dX0_takes_227 : decode cX0_takes 227 = .ok (.ireturn, 1) := by decide +kernel
set_option maxRecDepth 20000 in
set_option maxHeartbeats 4000000 in
theorem tb_X0_takes_b121 {p : Program} {l : Launch} {e : Env} {s : State} {m : MethodId} {args : Array Value} {below : List Frame} {meth : Method} {c : Code} {G : GG} {Φ : Int32 → S9 → Prop}  (hE : Ev 40 G p s m args c cX0_takes RX0) (hml : c.maxLocals = 2) (hr : meth.sig.returnType = (some .boolean)) (hlk : meth.locks = false)  {t0 : Int32} {σ : S9} {H : Heap} {locs : List Loc} {ls : Array Slot} (hq : wp_X0_takes_b121  Φ t0 σ) (hw : Pic cwl 40 G σ s.heap H locs) (hl : lv_has ls 2 []) : W p l e rm_X0_takes s m args below meth c H locs 0 0 (QI cwl 40 G below args s Φ) (F0 m 121 ls [.int t0, .ref (gAd G 4)]) := by
  unfold wp_X0_takes_b121 at hq
  refine clVi (rest := []) (As := [.int t0]) hE hml hl.1 hw (c_X0_awaits hE.2.2.2.2.2 l _ _ _ hq) cu221 cu222 cu223 cu224 cu138 rfl (k := 1) (by decide +kernel) (by decide) (ci := 0) rfl (q0 := 4) rfl rfl rfl (Nat.le_of_ble_eq_true rfl) dX0_takes_121 (by decide) (fun r1 σ1 hq H locs hw => ?_)
  refine lv_if_eq (tgt := 131) hE.1 hE.2.1 dX0_takes_124 (by decide) (fun c2 => ?_) (fun c2 => ?_)
  · have hq := hq.1 c2
    refine lv_iconst (v := (0 : Int32)) hE.1 hE.2.1 dX0_takes_131 (by decide) ?_
    exact rtZ hE hr hlk rfl hw hq dX0_takes_132
  · have hq := hq.2 c2
    refine lv_iconst (v := (1 : Int32)) hE.1 hE.2.1 dX0_takes_127 (by decide) ?_
    refine lv_goto (tgt := 132) hE.1 hE.2.1 dX0_takes_128 (by decide) ?_
    exact rtZ hE hr hlk rfl hw hq dX0_takes_132
set_option maxRecDepth 20000 in
set_option maxHeartbeats 4000000 in
theorem c_X0_takes {G : GG} (hJ : gJ 40 G) (l : Launch) (a1 : Int32) (σ : S9) (Φ : Int32 → S9 → Prop) (hq : wp_X0_takes a1 σ Φ) : CI cwl 40 G l yX0_takes cX0_takes 2 (some .boolean) rm_X0_takes [.ref (gAd G 4), .int a1] σ Φ := by
  refine CI.intro (by decide) (Nat.le_of_ble_eq_true rfl) hJ ?_
  intro p e s m args below meth c ls hE hml hr hlk hw hl
  have hl : lv_has ls 2 [(0, .ref (gAd G 4)), (1, .int a1)] := hl
  unfold wp_X0_takes at hq
  refine lv_aload_n hE.1 hE.2.1 dX0_takes_0 rfl (lv_at hl 0 rfl) ?_
  refine cgf_X0_86 hE hw dX0_takes_1 ?_
  by_cases c1 : (σ.1 7) = (0 : Int32)
  · have hq := hq.1 c1
    refine lv_tableH (off := 44) (tgt := 48) hE.1 hE.2.1 dX0_takes_4 c1 (by decide) (by decide) (by decide) (by decide) ?_
    refine lv_aload_n hE.1 hE.2.1 dX0_takes_48 rfl (lv_at hl 0 rfl) ?_
    refine lv_iload_n hE.1 hE.2.1 dX0_takes_49 rfl (lv_at hl 1 rfl) ?_
    refine clVi (rest := []) (As := [.int a1]) hE hml hl.1 hw (c_X0_beginsStatement hE.2.2.2.2.2 l _ _ _ hq) cu241 cu242 cu243 cu244 cu138 rfl (k := 1) (by decide +kernel) (by decide) (ci := 0) rfl (q0 := 4) rfl rfl rfl (Nat.le_of_ble_eq_true rfl) dX0_takes_50 (by decide) (fun r2 σ1 hq H locs hw => ?_)
    exact rtZ hE hr hlk hq.1 hw hq.2 dX0_takes_53
  · have hq := hq.2 c1
    by_cases c3 : (σ.1 7) = (1 : Int32)
    · have hq := hq.1 c3
      refine lv_tableH (off := 50) (tgt := 54) hE.1 hE.2.1 dX0_takes_4 c3 (by decide) (by decide) (by decide) (by decide) ?_
      refine lv_iload_n hE.1 hE.2.1 dX0_takes_54 rfl (lv_at hl 1 rfl) ?_
      refine lv_bipush (v := (58 : Int32)) hE.1 hE.2.1 dX0_takes_55 (by decide) ?_
      refine lv_icmp_ne (tgt := 69) hE.1 hE.2.1 dX0_takes_57 (by decide) (fun c4 => ?_) (fun c4 => ?_)
      · have hq := hq.2 c4
        refine lv_aload_n hE.1 hE.2.1 dX0_takes_69 rfl (lv_at hl 0 rfl) ?_
        refine lv_iload_n hE.1 hE.2.1 dX0_takes_70 rfl (lv_at hl 1 rfl) ?_
        refine clVi (rest := []) (As := [.int a1]) hE hml hl.1 hw (c_X0_beginsStatement hE.2.2.2.2.2 l _ _ _ hq) cu241 cu242 cu243 cu244 cu138 rfl (k := 1) (by decide +kernel) (by decide) (ci := 0) rfl (q0 := 4) rfl rfl rfl (Nat.le_of_ble_eq_true rfl) dX0_takes_71 (by decide) (fun r5 σ2 hq H locs hw => ?_)
        exact rtZ hE hr hlk hq.1 hw hq.2 dX0_takes_74
      · have hq := hq.1 c4
        refine lv_aload_n hE.1 hE.2.1 dX0_takes_60 rfl (lv_at hl 0 rfl) ?_
        refine lv_bipush (v := (7 : Int32)) hE.1 hE.2.1 dX0_takes_61 (by decide) ?_
        refine clVi (rest := []) (As := [.int (7 : Int32)]) hE hml hl.1 hw (c_X0_awaits hE.2.2.2.2.2 l _ _ _ hq) cu221 cu222 cu223 cu224 cu138 rfl (k := 1) (by decide +kernel) (by decide) (ci := 0) rfl (q0 := 4) rfl rfl rfl (Nat.le_of_ble_eq_true rfl) dX0_takes_63 (by decide) (fun r6 σ3 hq H locs hw => ?_)
        refine lv_goto (tgt := 74) hE.1 hE.2.1 dX0_takes_66 (by decide) ?_
        exact rtZ hE hr hlk hq.1 hw hq.2 dX0_takes_74
    · have hq := hq.2 c3
      by_cases c7 : (σ.1 7) = (2 : Int32)
      · have hq := hq.1 c7
        refine lv_tableH (off := 71) (tgt := 75) hE.1 hE.2.1 dX0_takes_4 c7 (by decide) (by decide) (by decide) (by decide) ?_
        refine lv_iload_n hE.1 hE.2.1 dX0_takes_75 rfl (lv_at hl 1 rfl) ?_
        refine lv_bipush (v := (61 : Int32)) hE.1 hE.2.1 dX0_takes_76 (by decide) ?_
        refine lv_icmp_ne (tgt := 92) hE.1 hE.2.1 dX0_takes_78 (by decide) (fun c8 => ?_) (fun c8 => ?_)
        · have hq := hq.2 c8
          refine lv_iconst (v := (0 : Int32)) hE.1 hE.2.1 dX0_takes_92 (by decide) ?_
          exact rtZ hE hr hlk rfl hw hq dX0_takes_93
        · have hq := hq.1 c8
          refine lv_aload_n hE.1 hE.2.1 dX0_takes_81 rfl (lv_at hl 0 rfl) ?_
          refine clVi (rest := []) (As := []) hE hml hl.1 hw (c_X0_awaitsValue hE.2.2.2.2.2 l _ _ hq) cu249 cu250 cu251 cu252 cu138 rfl (k := 0) (by decide +kernel) (by decide) (ci := 0) rfl (q0 := 4) rfl rfl rfl (Nat.le_of_ble_eq_true rfl) dX0_takes_82 (by decide) (fun r9 σ4 hq H locs hw => ?_)
          refine lv_if_eq (tgt := 92) hE.1 hE.2.1 dX0_takes_85 (by decide) (fun c10 => ?_) (fun c10 => ?_)
          · have hq := hq.1 c10
            refine lv_iconst (v := (0 : Int32)) hE.1 hE.2.1 dX0_takes_92 (by decide) ?_
            exact rtZ hE hr hlk rfl hw hq dX0_takes_93
          · have hq := hq.2 c10
            refine lv_iconst (v := (1 : Int32)) hE.1 hE.2.1 dX0_takes_88 (by decide) ?_
            refine lv_goto (tgt := 93) hE.1 hE.2.1 dX0_takes_89 (by decide) ?_
            exact rtZ hE hr hlk rfl hw hq dX0_takes_93
      · have hq := hq.2 c7
        by_cases c11 : (σ.1 7) = (3 : Int32)
        · have hq := hq.1 c11
          refine lv_tableH (off := 90) (tgt := 94) hE.1 hE.2.1 dX0_takes_4 c11 (by decide) (by decide) (by decide) (by decide) ?_
          refine lv_aload_n hE.1 hE.2.1 dX0_takes_94 rfl (lv_at hl 0 rfl) ?_
          refine cgf_X0_43 hE hw dX0_takes_95 ?_
          refine lv_iload_n hE.1 hE.2.1 dX0_takes_98 rfl (lv_at hl 1 rfl) ?_
          refine clVi (rest := []) (As := [.int a1]) hE hml hl.1 hw (c_X1_takes hE.2.2.2.2.2 l _ _ _ hq) cu300 cu301 cu302 cu303 cu213 rfl (k := 1) (by decide +kernel) (by decide) (ci := 1) rfl (q0 := 6) rfl rfl rfl (Nat.le_of_ble_eq_true rfl) dX0_takes_99 (by decide) (fun r12 σ5 hq H locs hw => ?_)
          refine lv_if_eq (tgt := 131) hE.1 hE.2.1 dX0_takes_102 (by decide) (fun c13 => ?_) (fun c13 => ?_)
          · have hq := hq.1 c13
            refine lv_iconst (v := (0 : Int32)) hE.1 hE.2.1 dX0_takes_131 (by decide) ?_
            exact rtZ hE hr hlk rfl hw hq dX0_takes_132
          · have hq := hq.2 c13
            refine lv_aload_n hE.1 hE.2.1 dX0_takes_105 rfl (lv_at hl 0 rfl) ?_
            refine lv_aload_n hE.1 hE.2.1 dX0_takes_106 rfl (lv_at hl 0 rfl) ?_
            refine cgf_X0_43 hE hw dX0_takes_107 ?_
            refine clVi (rest := [.ref (gAd G 4)]) (As := []) hE hml hl.1 hw (c_X1_mayEnd hE.2.2.2.2.2 l _ _ hq) cu304 cu305 cu306 cu307 cu213 rfl (k := 0) (by decide +kernel) (by decide) (ci := 1) rfl (q0 := 6) rfl rfl rfl (Nat.le_of_ble_eq_true rfl) dX0_takes_110 (by decide) (fun r14 σ6 hq H locs hw => ?_)
            refine lv_if_eq (tgt := 120) hE.1 hE.2.1 dX0_takes_113 (by decide) (fun c15 => ?_) (fun c15 => ?_)
            · have hq := hq.1 c15
              refine lv_iconst (v := (3 : Int32)) hE.1 hE.2.1 dX0_takes_120 (by decide) ?_
              exact tb_X0_takes_b121 hE hml hr hlk  hq hw (lv_sub hl [] rfl)
            · have hq := hq.2 c15
              refine lv_iconst (v := (2 : Int32)) hE.1 hE.2.1 dX0_takes_116 (by decide) ?_
              refine lv_goto (tgt := 121) hE.1 hE.2.1 dX0_takes_117 (by decide) ?_
              exact tb_X0_takes_b121 hE hml hr hlk  hq hw (lv_sub hl [] rfl)
        · have hq := hq.2 c11
          by_cases c16 : (σ.1 7) = (4 : Int32)
          · have hq := hq.1 c16
            refine lv_tableH (off := 129) (tgt := 133) hE.1 hE.2.1 dX0_takes_4 c16 (by decide) (by decide) (by decide) (by decide) ?_
            refine lv_aload_n hE.1 hE.2.1 dX0_takes_133 rfl (lv_at hl 0 rfl) ?_
            refine lv_iload_n hE.1 hE.2.1 dX0_takes_134 rfl (lv_at hl 1 rfl) ?_
            refine clVi (rest := []) (As := [.int a1]) hE hml hl.1 hw (c_X0_endsExpression hE.2.2.2.2.2 l _ _ _ hq) cu312 cu313 cu314 cu315 cu138 rfl (k := 1) (by decide +kernel) (by decide) (ci := 0) rfl (q0 := 4) rfl rfl rfl (Nat.le_of_ble_eq_true rfl) dX0_takes_135 (by decide) (fun r17 σ7 hq H locs hw => ?_)
            refine lv_if_eq (tgt := 149) hE.1 hE.2.1 dX0_takes_138 (by decide) (fun c18 => ?_) (fun c18 => ?_)
            · have hq := hq.1 c18
              refine lv_aload_n hE.1 hE.2.1 dX0_takes_149 rfl (lv_at hl 0 rfl) ?_
              refine cgf_X0_43 hE hw dX0_takes_150 ?_
              refine lv_iload_n hE.1 hE.2.1 dX0_takes_153 rfl (lv_at hl 1 rfl) ?_
              refine clVi (rest := []) (As := [.int a1]) hE hml hl.1 hw (c_X1_takes hE.2.2.2.2.2 l _ _ _ hq) cu300 cu301 cu302 cu303 cu213 rfl (k := 1) (by decide +kernel) (by decide) (ci := 1) rfl (q0 := 6) rfl rfl rfl (Nat.le_of_ble_eq_true rfl) dX0_takes_154 (by decide) (fun r19 σ8 hq H locs hw => ?_)
              exact rtZ hE hr hlk hq.1 hw hq.2 dX0_takes_157
            · have hq := hq.2 c18
              refine lv_aload_n hE.1 hE.2.1 dX0_takes_141 rfl (lv_at hl 0 rfl) ?_
              refine lv_iload_n hE.1 hE.2.1 dX0_takes_142 rfl (lv_at hl 1 rfl) ?_
              refine clVi (rest := []) (As := [.int a1]) hE hml hl.1 hw (c_X0_closesExpression hE.2.2.2.2.2 l _ _ _ hq) cu324 cu325 cu326 cu327 cu138 rfl (k := 1) (by decide +kernel) (by decide) (ci := 0) rfl (q0 := 4) rfl rfl rfl (Nat.le_of_ble_eq_true rfl) dX0_takes_143 (by decide) (fun r20 σ9 hq H locs hw => ?_)
              refine lv_goto (tgt := 157) hE.1 hE.2.1 dX0_takes_146 (by decide) ?_
              exact rtZ hE hr hlk hq.1 hw hq.2 dX0_takes_157
          · have hq := hq.2 c16
            by_cases c21 : (σ.1 7) = (5 : Int32)
            · have hq := hq.1 c21
              refine lv_tableH (off := 154) (tgt := 158) hE.1 hE.2.1 dX0_takes_4 c21 (by decide) (by decide) (by decide) (by decide) ?_
              refine lv_iload_n hE.1 hE.2.1 dX0_takes_158 rfl (lv_at hl 1 rfl) ?_
              refine lv_bipush (v := (59 : Int32)) hE.1 hE.2.1 dX0_takes_159 (by decide) ?_
              refine lv_icmp_ne (tgt := 176) hE.1 hE.2.1 dX0_takes_161 (by decide) (fun c22 => ?_) (fun c22 => ?_)
              · have hq := hq.2 c22
                refine lv_iconst (v := (0 : Int32)) hE.1 hE.2.1 dX0_takes_176 (by decide) ?_
                exact rtZ hE hr hlk rfl hw hq dX0_takes_177
              · have hq := hq.1 c22
                refine lv_aload_n hE.1 hE.2.1 dX0_takes_164 rfl (lv_at hl 0 rfl) ?_
                refine lv_iconst (v := (0 : Int32)) hE.1 hE.2.1 dX0_takes_165 (by decide) ?_
                refine clVi (rest := []) (As := [.int (0 : Int32)]) hE hml hl.1 hw (c_X0_awaits hE.2.2.2.2.2 l _ _ _ hq) cu221 cu222 cu223 cu224 cu138 rfl (k := 1) (by decide +kernel) (by decide) (ci := 0) rfl (q0 := 4) rfl rfl rfl (Nat.le_of_ble_eq_true rfl) dX0_takes_166 (by decide) (fun r23 σ10 hq H locs hw => ?_)
                refine lv_if_eq (tgt := 176) hE.1 hE.2.1 dX0_takes_169 (by decide) (fun c24 => ?_) (fun c24 => ?_)
                · have hq := hq.1 c24
                  refine lv_iconst (v := (0 : Int32)) hE.1 hE.2.1 dX0_takes_176 (by decide) ?_
                  exact rtZ hE hr hlk rfl hw hq dX0_takes_177
                · have hq := hq.2 c24
                  refine lv_iconst (v := (1 : Int32)) hE.1 hE.2.1 dX0_takes_172 (by decide) ?_
                  refine lv_goto (tgt := 177) hE.1 hE.2.1 dX0_takes_173 (by decide) ?_
                  exact rtZ hE hr hlk rfl hw hq dX0_takes_177
            · have hq := hq.2 c21
              by_cases c25 : (σ.1 7) = (6 : Int32)
              · have hq := hq.1 c25
                refine lv_tableH (off := 174) (tgt := 178) hE.1 hE.2.1 dX0_takes_4 c25 (by decide) (by decide) (by decide) (by decide) ?_
                refine lv_iload_n hE.1 hE.2.1 dX0_takes_178 rfl (lv_at hl 1 rfl) ?_
                refine lv_bipush (v := (123 : Int32)) hE.1 hE.2.1 dX0_takes_179 (by decide) ?_
                refine lv_icmp_ne (tgt := 197) hE.1 hE.2.1 dX0_takes_181 (by decide) (fun c26 => ?_) (fun c26 => ?_)
                · have hq := hq.2 c26
                  refine lv_iconst (v := (0 : Int32)) hE.1 hE.2.1 dX0_takes_197 (by decide) ?_
                  exact rtZ hE hr hlk rfl hw hq dX0_takes_198
                · have hq := hq.1 c26
                  refine lv_aload_n hE.1 hE.2.1 dX0_takes_184 rfl (lv_at hl 0 rfl) ?_
                  refine lv_iconst (v := (-1 : Int32)) hE.1 hE.2.1 dX0_takes_185 (by decide) ?_
                  refine lv_iconst (v := (0 : Int32)) hE.1 hE.2.1 dX0_takes_186 (by decide) ?_
                  refine clVi (rest := []) (As := [.int (-1 : Int32), .int (0 : Int32)]) hE hml hl.1 hw (c_X0_opensBlock hE.2.2.2.2.2 l _ _ _ _ hq) cu320 cu321 cu322 cu323 cu138 rfl (k := 2) (by decide +kernel) (by decide) (ci := 0) rfl (q0 := 4) rfl rfl rfl (Nat.le_of_ble_eq_true rfl) dX0_takes_187 (by decide) (fun r27 σ11 hq H locs hw => ?_)
                  refine lv_if_eq (tgt := 197) hE.1 hE.2.1 dX0_takes_190 (by decide) (fun c28 => ?_) (fun c28 => ?_)
                  · have hq := hq.1 c28
                    refine lv_iconst (v := (0 : Int32)) hE.1 hE.2.1 dX0_takes_197 (by decide) ?_
                    exact rtZ hE hr hlk rfl hw hq dX0_takes_198
                  · have hq := hq.2 c28
                    refine lv_iconst (v := (1 : Int32)) hE.1 hE.2.1 dX0_takes_193 (by decide) ?_
                    refine lv_goto (tgt := 198) hE.1 hE.2.1 dX0_takes_194 (by decide) ?_
                    exact rtZ hE hr hlk rfl hw hq dX0_takes_198
              · have hq := hq.2 c25
                refine lv_tableD (ks := [0, 1, 2, 3, 4, 5, 6]) (tgt := 199) hE.1 hE.2.1 dX0_takes_4 (by simp only [List.forall_mem_cons, List.not_mem_nil, false_implies, implies_true, and_true]; exact ⟨c1, c3, c7, c11, c16, c21, c25⟩) (by decide) (by decide) (by decide) ?_
                refine lv_iload_n hE.1 hE.2.1 dX0_takes_199 rfl (lv_at hl 1 rfl) ?_
                refine lv_bipush (v := (123 : Int32)) hE.1 hE.2.1 dX0_takes_200 (by decide) ?_
                refine lv_icmp_ne (tgt := 226) hE.1 hE.2.1 dX0_takes_202 (by decide) (fun c29 => ?_) (fun c29 => ?_)
                · have hq := hq.2 c29
                  refine lv_iconst (v := (0 : Int32)) hE.1 hE.2.1 dX0_takes_226 (by decide) ?_
                  exact rtZ hE hr hlk rfl hw hq dX0_takes_227
                · have hq := hq.1 c29
                  refine lv_aload_n hE.1 hE.2.1 dX0_takes_205 rfl (lv_at hl 0 rfl) ?_
                  refine lv_aload_n hE.1 hE.2.1 dX0_takes_206 rfl (lv_at hl 0 rfl) ?_
                  refine cgf_X0_22 hE hw dX0_takes_207 ?_
                  refine lv_aload_n hE.1 hE.2.1 dX0_takes_210 rfl (lv_at hl 0 rfl) ?_
                  refine cgf_X0_83 hE hw dX0_takes_211 ?_
                  obtain ⟨hi30, hq⟩ := hq
                  refine cal_28 hE hw hi30 dX0_takes_214 ?_
                  refine lv_iconst (v := (1 : Int32)) hE.1 hE.2.1 dX0_takes_215 (by decide) ?_
                  refine clVi (rest := []) (As := [.int (σ.2.1 16 ((σ.1 6)).toNatClampNeg), .int (1 : Int32)]) hE hml hl.1 hw (c_X0_opensBlock hE.2.2.2.2.2 l _ _ _ _ hq) cu320 cu321 cu322 cu323 cu138 rfl (k := 2) (by decide +kernel) (by decide) (ci := 0) rfl (q0 := 4) rfl rfl rfl (Nat.le_of_ble_eq_true rfl) dX0_takes_216 (by decide) (fun r31 σ12 hq H locs hw => ?_)
                  refine lv_if_eq (tgt := 226) hE.1 hE.2.1 dX0_takes_219 (by decide) (fun c32 => ?_) (fun c32 => ?_)
                  · have hq := hq.1 c32
                    refine lv_iconst (v := (0 : Int32)) hE.1 hE.2.1 dX0_takes_226 (by decide) ?_
                    exact rtZ hE hr hlk rfl hw hq dX0_takes_227
                  · have hq := hq.2 c32
                    refine lv_iconst (v := (1 : Int32)) hE.1 hE.2.1 dX0_takes_222 (by decide) ?_
                    refine lv_goto (tgt := 227) hE.1 hE.2.1 dX0_takes_223 (by decide) ?_
                    exact rtZ hE hr hlk rfl hw hq dX0_takes_227
/-! QueueBench$Compiler.mayEnd()Z -/
abbrev rm_X0_mayEnd : Room := { frames := 0, cells := 0, slots := 0, locals := 0 }
def wp_X0_mayEnd  (σ : S9) (Φ : Int32 → S9 → Prop) : Prop := ((σ.1 6) = 0 → ((σ.1 7) = 0 → Φ (1 : Int32) σ) ∧ (¬ (σ.1 7) = 0 → ((σ.1 7) = (1 : Int32) → Φ (1 : Int32) σ) ∧ (¬ (σ.1 7) = (1 : Int32) → Φ (0 : Int32) σ))) ∧ (¬ (σ.1 6) = 0 → Φ (0 : Int32) σ)
theorem dX0_mayEnd_0 : decode cX0_mayEnd 0 = .ok (.aload_n 0, 1) := by decide +kernel
theorem dX0_mayEnd_1 : decode cX0_mayEnd 1 = .ok (.getfield 83, 3) := by decide +kernel
theorem dX0_mayEnd_4 : decode cX0_mayEnd 4 = .ok (.ifCond .ne 22, 3) := by decide +kernel
theorem dX0_mayEnd_7 : decode cX0_mayEnd 7 = .ok (.aload_n 0, 1) := by decide +kernel
theorem dX0_mayEnd_8 : decode cX0_mayEnd 8 = .ok (.getfield 86, 3) := by decide +kernel
theorem dX0_mayEnd_11 : decode cX0_mayEnd 11 = .ok (.ifCond .eq 11, 3) := by decide +kernel
theorem dX0_mayEnd_14 : decode cX0_mayEnd 14 = .ok (.aload_n 0, 1) := by decide +kernel
theorem dX0_mayEnd_15 : decode cX0_mayEnd 15 = .ok (.getfield 86, 3) := by decide +kernel
theorem dX0_mayEnd_18 : decode cX0_mayEnd 18 = .ok (.iconst 1, 1) := by decide +kernel
theorem dX0_mayEnd_19 : decode cX0_mayEnd 19 = .ok (.if_icmp .ne 7, 3) := by decide +kernel
theorem dX0_mayEnd_22 : decode cX0_mayEnd 22 = .ok (.iconst 1, 1) := by decide +kernel
theorem dX0_mayEnd_23 : decode cX0_mayEnd 23 = .ok (.goto 4, 3) := by decide +kernel
theorem dX0_mayEnd_26 : decode cX0_mayEnd 26 = .ok (.iconst 0, 1) := by decide +kernel
theorem dX0_mayEnd_27 : decode cX0_mayEnd 27 = .ok (.ireturn, 1) := by decide +kernel
set_option maxRecDepth 20000 in
set_option maxHeartbeats 4000000 in
theorem c_X0_mayEnd {G : GG} (hJ : gJ 40 G) (l : Launch)  (σ : S9) (Φ : Int32 → S9 → Prop) (hq : wp_X0_mayEnd  σ Φ) : CI cwl 40 G l yX0_mayEnd cX0_mayEnd 1 (some .boolean) rm_X0_mayEnd [.ref (gAd G 4)] σ Φ := by
  refine CI.intro (by decide) (Nat.le_of_ble_eq_true rfl) hJ ?_
  intro p e s m args below meth c ls hE hml hr hlk hw hl
  have hl : lv_has ls 1 [(0, .ref (gAd G 4))] := hl
  unfold wp_X0_mayEnd at hq
  refine lv_aload_n hE.1 hE.2.1 dX0_mayEnd_0 rfl (lv_at hl 0 rfl) ?_
  refine cgf_X0_83 hE hw dX0_mayEnd_1 ?_
  refine lv_if_ne (tgt := 26) hE.1 hE.2.1 dX0_mayEnd_4 (by decide) (fun c1 => ?_) (fun c1 => ?_)
  · have hq := hq.2 c1
    refine lv_iconst (v := (0 : Int32)) hE.1 hE.2.1 dX0_mayEnd_26 (by decide) ?_
    exact rtZ hE hr hlk rfl hw hq dX0_mayEnd_27
  · have hq := hq.1 c1
    refine lv_aload_n hE.1 hE.2.1 dX0_mayEnd_7 rfl (lv_at hl 0 rfl) ?_
    refine cgf_X0_86 hE hw dX0_mayEnd_8 ?_
    refine lv_if_eq (tgt := 22) hE.1 hE.2.1 dX0_mayEnd_11 (by decide) (fun c2 => ?_) (fun c2 => ?_)
    · have hq := hq.1 c2
      refine lv_iconst (v := (1 : Int32)) hE.1 hE.2.1 dX0_mayEnd_22 (by decide) ?_
      refine lv_goto (tgt := 27) hE.1 hE.2.1 dX0_mayEnd_23 (by decide) ?_
      exact rtZ hE hr hlk rfl hw hq dX0_mayEnd_27
    · have hq := hq.2 c2
      refine lv_aload_n hE.1 hE.2.1 dX0_mayEnd_14 rfl (lv_at hl 0 rfl) ?_
      refine cgf_X0_86 hE hw dX0_mayEnd_15 ?_
      refine lv_iconst (v := (1 : Int32)) hE.1 hE.2.1 dX0_mayEnd_18 (by decide) ?_
      refine lv_icmp_ne (tgt := 26) hE.1 hE.2.1 dX0_mayEnd_19 (by decide) (fun c3 => ?_) (fun c3 => ?_)
      · have hq := hq.2 c3
        refine lv_iconst (v := (0 : Int32)) hE.1 hE.2.1 dX0_mayEnd_26 (by decide) ?_
        exact rtZ hE hr hlk rfl hw hq dX0_mayEnd_27
      · have hq := hq.1 c3
        refine lv_iconst (v := (1 : Int32)) hE.1 hE.2.1 dX0_mayEnd_22 (by decide) ?_
        refine lv_goto (tgt := 27) hE.1 hE.2.1 dX0_mayEnd_23 (by decide) ?_
        exact rtZ hE hr hlk rfl hw hq dX0_mayEnd_27
/-! QueueBench$Program.linkBlockEnds()V -/
abbrev rm_X6_linkBlockEnds : Room := { frames := 0, cells := 0, slots := 0, locals := 0 }
def bd_X6_linkBlockEnds_b2 (K2 : Int32 → S9 → Prop) (Φ : S9 → Prop) (a1 : Int32) (σ : S9) : Prop := ((σ.1 4) ≤ a1 → Φ σ) ∧ (¬ (σ.1 4) ≤ a1 → vp_in a1 300 ∧ ∀ x3 : Int32, x3 = (σ.2.1 5 (a1).toNatClampNeg) → vp_in a1 300 ∧ ((σ.2.1 8 (a1).toNatClampNeg) = (-1 : Int32) → (x3 = (-1 : Int32) → ∀ x8 : Int32, x8 = a1 + 1 → K2 x8 σ) ∧ (¬ x3 = (-1 : Int32) → vp_in x3 300 ∧ ((σ.2.1 2 (x3).toNatClampNeg) = (42 : Int32) → vp_in a1 300 ∧ ∀ σ2 : S9, σ2 = sA σ 8 (upd (σ.2.1 8) (a1).toNatClampNeg x3) → ∀ x15 : Int32, x15 = a1 + 1 → K2 x15 σ2) ∧ (¬ (σ.2.1 2 (x3).toNatClampNeg) = (42 : Int32) → vp_in x3 300 ∧ vp_in a1 300 ∧ ∀ σ1 : S9, σ1 = sA σ 8 (upd (σ.2.1 8) (a1).toNatClampNeg (σ.2.1 8 (x3).toNatClampNeg)) → ∀ x13 : Int32, x13 = a1 + 1 → K2 x13 σ1))) ∧ (¬ (σ.2.1 8 (a1).toNatClampNeg) = (-1 : Int32) → ∀ x6 : Int32, x6 = a1 + 1 → K2 x6 σ))
def lp_X6_linkBlockEnds_b2  (Φ : S9 → Prop) : Nat → Int32 → S9 → Prop
  | 0 => fun _ _ => False
  | n + 1 => bd_X6_linkBlockEnds_b2  (lp_X6_linkBlockEnds_b2  Φ n) Φ
def wp_X6_linkBlockEnds  (σ : S9) (Φ : S9 → Prop) : Prop := ∀ x1 : Int32, x1 = (0 : Int32) → ∃ n : Nat, lp_X6_linkBlockEnds_b2  Φ n x1 σ
theorem dX6_linkBlockEnds_0 : decode cX6_linkBlockEnds 0 = .ok (.iconst 0, 1) := by decide +kernel
theorem dX6_linkBlockEnds_1 : decode cX6_linkBlockEnds 1 = .ok (.istore_n 1, 1) := by decide +kernel
theorem dX6_linkBlockEnds_2 : decode cX6_linkBlockEnds 2 = .ok (.iload_n 1, 1) := by decide +kernel
theorem dX6_linkBlockEnds_3 : decode cX6_linkBlockEnds 3 = .ok (.aload_n 0, 1) := by decide +kernel
theorem dX6_linkBlockEnds_4 : decode cX6_linkBlockEnds 4 = .ok (.getfield 46, 3) := by decide +kernel
theorem dX6_linkBlockEnds_7 : decode cX6_linkBlockEnds 7 = .ok (.if_icmp .ge 58, 3) := by decide +kernel
theorem dX6_linkBlockEnds_10 : decode cX6_linkBlockEnds 10 = .ok (.aload_n 0, 1) := by decide +kernel
theorem dX6_linkBlockEnds_11 : decode cX6_linkBlockEnds 11 = .ok (.getfield 22, 3) := by decide +kernel
theorem dX6_linkBlockEnds_14 : decode cX6_linkBlockEnds 14 = .ok (.iload_n 1, 1) := by decide +kernel
theorem dX6_linkBlockEnds_15 : decode cX6_linkBlockEnds 15 = .ok (.iaload, 1) := by decide +kernel
theorem dX6_linkBlockEnds_16 : decode cX6_linkBlockEnds 16 = .ok (.istore_n 2, 1) := by decide +kernel
theorem dX6_linkBlockEnds_17 : decode cX6_linkBlockEnds 17 = .ok (.aload_n 0, 1) := by decide +kernel
theorem dX6_linkBlockEnds_18 : decode cX6_linkBlockEnds 18 = .ok (.getfield 31, 3) := by decide +kernel
theorem dX6_linkBlockEnds_21 : decode cX6_linkBlockEnds 21 = .ok (.iload_n 1, 1) := by decide +kernel
theorem dX6_linkBlockEnds_22 : decode cX6_linkBlockEnds 22 = .ok (.iaload, 1) := by decide +kernel
theorem dX6_linkBlockEnds_23 : decode cX6_linkBlockEnds 23 = .ok (.iconst (-1), 1) := by decide +kernel
theorem dX6_linkBlockEnds_24 : decode cX6_linkBlockEnds 24 = .ok (.if_icmp .ne 35, 3) := by decide +kernel
theorem dX6_linkBlockEnds_27 : decode cX6_linkBlockEnds 27 = .ok (.iload_n 2, 1) := by decide +kernel
theorem dX6_linkBlockEnds_28 : decode cX6_linkBlockEnds 28 = .ok (.iconst (-1), 1) := by decide +kernel
theorem dX6_linkBlockEnds_29 : decode cX6_linkBlockEnds 29 = .ok (.if_icmp .eq 30, 3) := by decide +kernel
theorem dX6_linkBlockEnds_32 : decode cX6_linkBlockEnds 32 = .ok (.aload_n 0, 1) := by decide +kernel
theorem dX6_linkBlockEnds_33 : decode cX6_linkBlockEnds 33 = .ok (.getfield 31, 3) := by decide +kernel
theorem dX6_linkBlockEnds_36 : decode cX6_linkBlockEnds 36 = .ok (.iload_n 1, 1) := by decide +kernel
theorem dX6_linkBlockEnds_37 : decode cX6_linkBlockEnds 37 = .ok (.aload_n 0, 1) := by decide +kernel
theorem dX6_linkBlockEnds_38 : decode cX6_linkBlockEnds 38 = .ok (.getfield 9, 3) := by decide +kernel
theorem dX6_linkBlockEnds_41 : decode cX6_linkBlockEnds 41 = .ok (.iload_n 2, 1) := by decide +kernel
theorem dX6_linkBlockEnds_42 : decode cX6_linkBlockEnds 42 = .ok (.caload, 1) := by decide +kernel
theorem dX6_linkBlockEnds_43 : decode cX6_linkBlockEnds 43 = .ok (.bipush 42, 2) := by decide +kernel
theorem dX6_linkBlockEnds_45 : decode cX6_linkBlockEnds 45 = .ok (.if_icmp .ne 7, 3) := by decide +kernel
theorem dX6_linkBlockEnds_48 : decode cX6_linkBlockEnds 48 = .ok (.iload_n 2, 1) := by decide +kernel
theorem dX6_linkBlockEnds_49 : decode cX6_linkBlockEnds 49 = .ok (.goto 9, 3) := by decide +kernel
theorem dX6_linkBlockEnds_52 : decode cX6_linkBlockEnds 52 = .ok (.aload_n 0, 1) := by decide +kernel
theorem dX6_linkBlockEnds_53 : decode cX6_linkBlockEnds 53 = .ok (.getfield 31, 3) := by decide +kernel
theorem dX6_linkBlockEnds_56 : decode cX6_linkBlockEnds 56 = .ok (.iload_n 2, 1) := by decide +kernel
theorem dX6_linkBlockEnds_57 : decode cX6_linkBlockEnds 57 = .ok (.iaload, 1) := by decide +kernel
theorem dX6_linkBlockEnds_58 : decode cX6_linkBlockEnds 58 = .ok (.iastore, 1) := by decide +kernel
theorem dX6_linkBlockEnds_59 : decode cX6_linkBlockEnds 59 = .ok (.iinc 1 1, 3) := by decide +kernel
theorem dX6_linkBlockEnds_62 : decode cX6_linkBlockEnds 62 = .ok (.goto (-60), 3) := by decide +kernel
theorem dX6_linkBlockEnds_65 : decode cX6_linkBlockEnds 65 = .ok (.return_, 1) := by decide +kernel
set_option maxRecDepth 20000 in
set_option maxHeartbeats 4000000 in
theorem tb_X6_linkBlockEnds_b2 {p : Program} {l : Launch} {e : Env} {s : State} {m : MethodId} {args : Array Value} {below : List Frame} {meth : Method} {c : Code} {G : GG} {Φ : S9 → Prop} {K2 : Int32 → S9 → Prop} (hE : Ev 40 G p s m args c cX6_linkBlockEnds RX6) (hml : c.maxLocals = 3) (hr : meth.sig.returnType = none) (hlk : meth.locks = false) (hK2 : ∀ (a1 : Int32) (σ : S9) (H : Heap) (locs : List Loc) (ls : Array Slot), K2 a1 σ → Pic cwl 40 G σ s.heap H locs → lv_has ls 3 [(0, .ref (gAd G 3)), (1, .int a1)] → W p l e rm_X6_linkBlockEnds s m args below meth c H locs 0 0 (QV cwl 40 G below args s Φ) (F0 m 2 ls [])) {a1 : Int32} {σ : S9} {H : Heap} {locs : List Loc} {ls : Array Slot} (hq : bd_X6_linkBlockEnds_b2 K2 Φ a1 σ) (hw : Pic cwl 40 G σ s.heap H locs) (hl : lv_has ls 3 [(0, .ref (gAd G 3)), (1, .int a1)]) : W p l e rm_X6_linkBlockEnds s m args below meth c H locs 0 0 (QV cwl 40 G below args s Φ) (F0 m 2 ls []) := by
  unfold bd_X6_linkBlockEnds_b2 at hq
  refine lv_iload_n hE.1 hE.2.1 dX6_linkBlockEnds_2 rfl (lv_at hl 1 rfl) ?_
  refine lv_aload_n hE.1 hE.2.1 dX6_linkBlockEnds_3 rfl (lv_at hl 0 rfl) ?_
  refine cgf_X6_46 hE hw dX6_linkBlockEnds_4 ?_
  refine lv_icmp_ge (tgt := 65) hE.1 hE.2.1 dX6_linkBlockEnds_7 (by decide) (fun c1 => ?_) (fun c1 => ?_)
  · have hq := hq.1 c1
    exact rtV hE hr hlk hw hq dX6_linkBlockEnds_65
  · have hq := hq.2 c1
    refine lv_aload_n hE.1 hE.2.1 dX6_linkBlockEnds_10 rfl (lv_at hl 0 rfl) ?_
    refine cgf_X6_22 hE hw dX6_linkBlockEnds_11 ?_
    refine lv_iload_n hE.1 hE.2.1 dX6_linkBlockEnds_14 rfl (lv_at hl 1 rfl) ?_
    obtain ⟨hi2, hq⟩ := hq
    refine cal_17 hE hw hi2 dX6_linkBlockEnds_15 ?_
    refine lv_topi (fun x3 ex3 => ?_)
    have hq := hq x3 ex3
    refine lv_istore_n (lv' := [(2, .int x3), (0, .ref (gAd G 3)), (1, .int a1)]) hE.1 hE.2.1 dX6_linkBlockEnds_16 rfl hl (by decide) rfl (fun ls hl => ?_)
    refine lv_aload_n hE.1 hE.2.1 dX6_linkBlockEnds_17 rfl (lv_at hl 1 rfl) ?_
    refine cgf_X6_31 hE hw dX6_linkBlockEnds_18 ?_
    refine lv_iload_n hE.1 hE.2.1 dX6_linkBlockEnds_21 rfl (lv_at hl 2 rfl) ?_
    obtain ⟨hi4, hq⟩ := hq
    refine cal_20 hE hw hi4 dX6_linkBlockEnds_22 ?_
    refine lv_iconst (v := (-1 : Int32)) hE.1 hE.2.1 dX6_linkBlockEnds_23 (by decide) ?_
    refine lv_icmp_ne (tgt := 59) hE.1 hE.2.1 dX6_linkBlockEnds_24 (by decide) (fun c5 => ?_) (fun c5 => ?_)
    · have hq := hq.2 c5
      obtain ⟨x6, ex6⟩ : ∃ y : Int32, y = a1 + 1 := ⟨_, rfl⟩
      have hq := hq x6 ex6
      refine lv_iinc (v := x6) (lv' := [(1, .int x6), (2, .int x3), (0, .ref (gAd G 3))]) hE.1 hE.2.1 dX6_linkBlockEnds_59 hl (k := 2) rfl (by rw [ex6]; rfl) (by decide) rfl (fun ls hl => ?_)
      refine lv_goto (tgt := 2) hE.1 hE.2.1 dX6_linkBlockEnds_62 (by decide) ?_
      exact hK2 _ _ _ _ _ hq hw (lv_sub hl [2, 0] rfl)
    · have hq := hq.1 c5
      refine lv_iload_n hE.1 hE.2.1 dX6_linkBlockEnds_27 rfl (lv_at hl 0 rfl) ?_
      refine lv_iconst (v := (-1 : Int32)) hE.1 hE.2.1 dX6_linkBlockEnds_28 (by decide) ?_
      refine lv_icmp_eq (tgt := 59) hE.1 hE.2.1 dX6_linkBlockEnds_29 (by decide) (fun c7 => ?_) (fun c7 => ?_)
      · have hq := hq.1 c7
        obtain ⟨x8, ex8⟩ : ∃ y : Int32, y = a1 + 1 := ⟨_, rfl⟩
        have hq := hq x8 ex8
        refine lv_iinc (v := x8) (lv' := [(1, .int x8), (2, .int x3), (0, .ref (gAd G 3))]) hE.1 hE.2.1 dX6_linkBlockEnds_59 hl (k := 2) rfl (by rw [ex8]; rfl) (by decide) rfl (fun ls hl => ?_)
        refine lv_goto (tgt := 2) hE.1 hE.2.1 dX6_linkBlockEnds_62 (by decide) ?_
        exact hK2 _ _ _ _ _ hq hw (lv_sub hl [2, 0] rfl)
      · have hq := hq.2 c7
        refine lv_aload_n hE.1 hE.2.1 dX6_linkBlockEnds_32 rfl (lv_at hl 1 rfl) ?_
        refine cgf_X6_31 hE hw dX6_linkBlockEnds_33 ?_
        refine lv_iload_n hE.1 hE.2.1 dX6_linkBlockEnds_36 rfl (lv_at hl 2 rfl) ?_
        refine lv_aload_n hE.1 hE.2.1 dX6_linkBlockEnds_37 rfl (lv_at hl 1 rfl) ?_
        refine cgf_X6_9 hE hw dX6_linkBlockEnds_38 ?_
        refine lv_iload_n hE.1 hE.2.1 dX6_linkBlockEnds_41 rfl (lv_at hl 0 rfl) ?_
        obtain ⟨hi9, hq⟩ := hq
        refine cal_14 hE hw hi9 dX6_linkBlockEnds_42 ?_
        refine lv_bipush (v := (42 : Int32)) hE.1 hE.2.1 dX6_linkBlockEnds_43 (by decide) ?_
        refine lv_icmp_ne (tgt := 52) hE.1 hE.2.1 dX6_linkBlockEnds_45 (by decide) (fun c10 => ?_) (fun c10 => ?_)
        · have hq := hq.2 c10
          refine lv_aload_n hE.1 hE.2.1 dX6_linkBlockEnds_52 rfl (lv_at hl 1 rfl) ?_
          refine cgf_X6_31 hE hw dX6_linkBlockEnds_53 ?_
          refine lv_iload_n hE.1 hE.2.1 dX6_linkBlockEnds_56 rfl (lv_at hl 0 rfl) ?_
          obtain ⟨hi11, hq⟩ := hq
          refine cal_20 hE hw hi11 dX6_linkBlockEnds_57 ?_
          obtain ⟨hi12, hq⟩ := hq
          refine cas_20 hE hw hi12 dX6_linkBlockEnds_58 (fun σ1 eσ1 H locs hw => ?_)
          have hq := hq σ1 eσ1
          obtain ⟨x13, ex13⟩ : ∃ y : Int32, y = a1 + 1 := ⟨_, rfl⟩
          have hq := hq x13 ex13
          refine lv_iinc (v := x13) (lv' := [(1, .int x13), (2, .int x3), (0, .ref (gAd G 3))]) hE.1 hE.2.1 dX6_linkBlockEnds_59 hl (k := 2) rfl (by rw [ex13]; rfl) (by decide) rfl (fun ls hl => ?_)
          refine lv_goto (tgt := 2) hE.1 hE.2.1 dX6_linkBlockEnds_62 (by decide) ?_
          exact hK2 _ _ _ _ _ hq hw (lv_sub hl [2, 0] rfl)
        · have hq := hq.1 c10
          refine lv_iload_n hE.1 hE.2.1 dX6_linkBlockEnds_48 rfl (lv_at hl 0 rfl) ?_
          refine lv_goto (tgt := 58) hE.1 hE.2.1 dX6_linkBlockEnds_49 (by decide) ?_
          obtain ⟨hi14, hq⟩ := hq
          refine cas_20 hE hw hi14 dX6_linkBlockEnds_58 (fun σ2 eσ2 H locs hw => ?_)
          have hq := hq σ2 eσ2
          obtain ⟨x15, ex15⟩ : ∃ y : Int32, y = a1 + 1 := ⟨_, rfl⟩
          have hq := hq x15 ex15
          refine lv_iinc (v := x15) (lv' := [(1, .int x15), (2, .int x3), (0, .ref (gAd G 3))]) hE.1 hE.2.1 dX6_linkBlockEnds_59 hl (k := 2) rfl (by rw [ex15]; rfl) (by decide) rfl (fun ls hl => ?_)
          refine lv_goto (tgt := 2) hE.1 hE.2.1 dX6_linkBlockEnds_62 (by decide) ?_
          exact hK2 _ _ _ _ _ hq hw (lv_sub hl [2, 0] rfl)
theorem tl_X6_linkBlockEnds_b2 {p : Program} {l : Launch} {e : Env} {s : State} {m : MethodId} {args : Array Value} {below : List Frame} {meth : Method} {c : Code} {G : GG} {Φ : S9 → Prop}  (hE : Ev 40 G p s m args c cX6_linkBlockEnds RX6) (hml : c.maxLocals = 3) (hr : meth.sig.returnType = none) (hlk : meth.locks = false)  : ∀ (n : Nat) (a1 : Int32) (σ : S9) (H : Heap) (locs : List Loc) (ls : Array Slot), lp_X6_linkBlockEnds_b2  Φ n a1 σ → Pic cwl 40 G σ s.heap H locs → lv_has ls 3 [(0, .ref (gAd G 3)), (1, .int a1)] → W p l e rm_X6_linkBlockEnds s m args below meth c H locs 0 0 (QV cwl 40 G below args s Φ) (F0 m 2 ls []) := by
  intro n
  induction n with
  | zero => intro _ _ _ _ _ hq; exact hq.elim
  | succ n ih => intro _ _ _ _ _ hq hw hl; exact tb_X6_linkBlockEnds_b2 hE hml hr hlk  ih hq hw hl
set_option maxRecDepth 20000 in
set_option maxHeartbeats 4000000 in
theorem c_X6_linkBlockEnds {G : GG} (hJ : gJ 40 G) (l : Launch)  (σ : S9) (Φ : S9 → Prop) (hq : wp_X6_linkBlockEnds  σ Φ) : CV cwl 40 G l yX6_linkBlockEnds cX6_linkBlockEnds 3 rm_X6_linkBlockEnds [.ref (gAd G 3)] σ Φ := by
  refine CV.intro (by decide) (Nat.le_of_ble_eq_true rfl) hJ ?_
  intro p e s m args below meth c ls hE hml hr hlk hw hl
  have hl : lv_has ls 3 [(0, .ref (gAd G 3))] := hl
  unfold wp_X6_linkBlockEnds at hq
  refine lv_iconst (v := (0 : Int32)) hE.1 hE.2.1 dX6_linkBlockEnds_0 (by decide) ?_
  refine lv_topi (fun x1 ex1 => ?_)
  have hq := hq x1 ex1
  refine lv_istore_n (lv' := [(1, .int x1), (0, .ref (gAd G 3))]) hE.1 hE.2.1 dX6_linkBlockEnds_1 rfl hl (by decide) rfl (fun ls hl => ?_)
  obtain ⟨nn, hq⟩ := hq
  exact tl_X6_linkBlockEnds_b2 hE hml hr hlk  nn _ _ _ _ _ hq hw (lv_sub hl [1, 0] rfl)
/-! QueueBench$Compiler.firstFault()I -/
abbrev rm_X0_firstFault : Room := { frames := 6, cells := 0, slots := 0, locals := 131 }
def wp_X0_firstFault_b57  (Φ : Int32 → S9 → Prop)  (σ : S9) : Prop := wp_X9_atEnd σ (fun r1 σ1 => (r1 = 0 → Φ (σ1.1 10) σ1) ∧ (¬ r1 = 0 → wp_X0_mayEnd σ1 (fun r3 σ2 => (r3 = 0 → Φ (σ2.1 10) σ2) ∧ (¬ r3 = 0 → wp_X6_linkBlockEnds σ2 (fun σ3 => Φ (-1 : Int32) σ3)))))
def bd_X0_firstFault_b13 (K13 : Int32 → S9 → Prop) (Φ : Int32 → S9 → Prop) (a1 : Int32) (σ : S9) : Prop := ((3000 : Int32) ≤ a1 → wp_X0_firstFault_b57  Φ σ) ∧ (¬ (3000 : Int32) ≤ a1 → wp_X9_atEnd σ (fun r2 σ1 => (r2 = 0 → wp_X0_takes (σ1.1 12) σ1 (fun r4 σ2 => (r4 = 0 → wp_X0_firstFault_b57  Φ σ2) ∧ (¬ r4 = 0 → wp_X9_toNext σ2 (fun σ3 => ∀ x6 : Int32, x6 = a1 + 1 → K13 x6 σ3)))) ∧ (¬ r2 = 0 → wp_X0_firstFault_b57  Φ σ1)))
def lp_X0_firstFault_b13  (Φ : Int32 → S9 → Prop) : Nat → Int32 → S9 → Prop
  | 0 => fun _ _ => False
  | n + 1 => bd_X0_firstFault_b13  (lp_X0_firstFault_b13  Φ n) Φ
def wp_X0_firstFault  (σ : S9) (Φ : Int32 → S9 → Prop) : Prop := wp_X0_reset σ (fun σ1 => wp_X9_toFirst σ1 (fun σ2 => ∀ x1 : Int32, x1 = (0 : Int32) → ∃ n : Nat, lp_X0_firstFault_b13  Φ n x1 σ2))
theorem dX0_firstFault_0 : decode cX0_firstFault 0 = .ok (.aload_n 0, 1) := by decide +kernel
theorem dX0_firstFault_1 : decode cX0_firstFault 1 = .ok (.invokevirtual 47, 3) := by decide +kernel
theorem dX0_firstFault_4 : decode cX0_firstFault 4 = .ok (.aload_n 0, 1) := by decide +kernel
theorem dX0_firstFault_5 : decode cX0_firstFault 5 = .ok (.getfield 30, 3) := by decide +kernel
theorem dX0_firstFault_8 : decode cX0_firstFault 8 = .ok (.invokevirtual 50, 3) := by decide +kernel
theorem dX0_firstFault_11 : decode cX0_firstFault 11 = .ok (.iconst 0, 1) := by decide +kernel
theorem dX0_firstFault_12 : decode cX0_firstFault 12 = .ok (.istore_n 1, 1) := by decide +kernel
theorem dX0_firstFault_13 : decode cX0_firstFault 13 = .ok (.iload_n 1, 1) := by decide +kernel
theorem dX0_firstFault_14 : decode cX0_firstFault 14 = .ok (.sipush 3000, 3) := by decide +kernel
theorem dX0_firstFault_17 : decode cX0_firstFault 17 = .ok (.if_icmp .ge 40, 3) := by decide +kernel
theorem dX0_firstFault_20 : decode cX0_firstFault 20 = .ok (.aload_n 0, 1) := by decide +kernel
theorem dX0_firstFault_21 : decode cX0_firstFault 21 = .ok (.getfield 30, 3) := by decide +kernel
theorem dX0_firstFault_24 : decode cX0_firstFault 24 = .ok (.invokevirtual 53, 3) := by decide +kernel
theorem dX0_firstFault_27 : decode cX0_firstFault 27 = .ok (.ifCond .ne 30, 3) := by decide +kernel
theorem dX0_firstFault_30 : decode cX0_firstFault 30 = .ok (.aload_n 0, 1) := by decide +kernel
theorem dX0_firstFault_31 : decode cX0_firstFault 31 = .ok (.aload_n 0, 1) := by decide +kernel
theorem dX0_firstFault_32 : decode cX0_firstFault 32 = .ok (.getfield 30, 3) := by decide +kernel
theorem dX0_firstFault_35 : decode cX0_firstFault 35 = .ok (.getfield 57, 3) := by decide +kernel
theorem dX0_firstFault_38 : decode cX0_firstFault 38 = .ok (.invokevirtual 61, 3) := by decide +kernel
theorem dX0_firstFault_41 : decode cX0_firstFault 41 = .ok (.ifCond .eq 16, 3) := by decide +kernel
theorem dX0_firstFault_44 : decode cX0_firstFault 44 = .ok (.aload_n 0, 1) := by decide +kernel
theorem dX0_firstFault_45 : decode cX0_firstFault 45 = .ok (.getfield 30, 3) := by decide +kernel
theorem dX0_firstFault_48 : decode cX0_firstFault 48 = .ok (.invokevirtual 65, 3) := by decide +kernel
theorem dX0_firstFault_51 : decode cX0_firstFault 51 = .ok (.iinc 1 1, 3) := by decide +kernel
theorem dX0_firstFault_54 : decode cX0_firstFault 54 = .ok (.goto (-41), 3) := by decide +kernel
theorem dX0_firstFault_57 : decode cX0_firstFault 57 = .ok (.aload_n 0, 1) := by decide +kernel
theorem dX0_firstFault_58 : decode cX0_firstFault 58 = .ok (.getfield 30, 3) := by decide +kernel
theorem dX0_firstFault_61 : decode cX0_firstFault 61 = .ok (.invokevirtual 53, 3) := by decide +kernel
theorem dX0_firstFault_64 : decode cX0_firstFault 64 = .ok (.ifCond .eq 10, 3) := by decide +kernel
theorem dX0_firstFault_67 : decode cX0_firstFault 67 = .ok (.aload_n 0, 1) := by decide +kernel
theorem dX0_firstFault_68 : decode cX0_firstFault 68 = .ok (.invokevirtual 68, 3) := by decide +kernel
theorem dX0_firstFault_71 : decode cX0_firstFault 71 = .ok (.ifCond .ne 11, 3) := by decide +kernel
theorem dX0_firstFault_74 : decode cX0_firstFault 74 = .ok (.aload_n 0, 1) := by decide +kernel
theorem dX0_firstFault_75 : decode cX0_firstFault 75 = .ok (.getfield 30, 3) := by decide +kernel
theorem dX0_firstFault_78 : decode cX0_firstFault 78 = .ok (.getfield 71, 3) := by decide +kernel
theorem dX0_firstFault_81 : decode cX0_firstFault 81 = .ok (.ireturn, 1) := by decide +kernel
theorem dX0_firstFault_82 : decode cX0_firstFault 82 = .ok (.aload_n 0, 1) := by decide +kernel
theorem dX0_firstFault_83 : decode cX0_firstFault 83 = .ok (.getfield 34, 3) := by decide +kernel
theorem dX0_firstFault_86 : decode cX0_firstFault 86 = .ok (.invokevirtual 75, 3) := by decide +kernel
theorem dX0_firstFault_89 : decode cX0_firstFault 89 = .ok (.iconst (-1), 1) := by decide +kernel
theorem dX0_firstFault_90 : decode cX0_firstFault 90 = .ok (.ireturn, 1) := by decide +kernel
set_option maxRecDepth 20000 in
set_option maxHeartbeats 4000000 in
theorem tb_X0_firstFault_b57 {p : Program} {l : Launch} {e : Env} {s : State} {m : MethodId} {args : Array Value} {below : List Frame} {meth : Method} {c : Code} {G : GG} {Φ : Int32 → S9 → Prop}  (hE : Ev 40 G p s m args c cX0_firstFault RX0) (hml : c.maxLocals = 2) (hr : meth.sig.returnType = (some .int)) (hlk : meth.locks = false)   {σ : S9} {H : Heap} {locs : List Loc} {ls : Array Slot} (hq : wp_X0_firstFault_b57  Φ  σ) (hw : Pic cwl 40 G σ s.heap H locs) (hl : lv_has ls 2 [(0, .ref (gAd G 4))]) : W p l e rm_X0_firstFault s m args below meth c H locs 0 0 (QI cwl 40 G below args s Φ) (F0 m 57 ls []) := by
  unfold wp_X0_firstFault_b57 at hq
  refine lv_aload_n hE.1 hE.2.1 dX0_firstFault_57 rfl (lv_at hl 0 rfl) ?_
  refine cgf_X0_30 hE hw dX0_firstFault_58 ?_
  refine clVi (rest := []) (As := []) hE hml hl.1 hw (c_X9_atEnd hE.2.2.2.2.2 l _ _ hq) cu182 cu183 cu184 cu185 cu165 rfl (k := 0) (by decide +kernel) (by decide) (ci := 9) rfl (q0 := 5) rfl rfl rfl (Nat.le_of_ble_eq_true rfl) dX0_firstFault_61 (by decide) (fun r1 σ1 hq H locs hw => ?_)
  refine lv_if_eq (tgt := 74) hE.1 hE.2.1 dX0_firstFault_64 (by decide) (fun c2 => ?_) (fun c2 => ?_)
  · have hq := hq.1 c2
    refine lv_aload_n hE.1 hE.2.1 dX0_firstFault_74 rfl (lv_at hl 0 rfl) ?_
    refine cgf_X0_30 hE hw dX0_firstFault_75 ?_
    refine cgf_X0_71 hE hw dX0_firstFault_78 ?_
    exact rtI hE hr hlk hw hq dX0_firstFault_81
  · have hq := hq.2 c2
    refine lv_aload_n hE.1 hE.2.1 dX0_firstFault_67 rfl (lv_at hl 0 rfl) ?_
    refine clVi (rest := []) (As := []) hE hml hl.1 hw (c_X0_mayEnd hE.2.2.2.2.2 l _ _ hq) cu333 cu334 cu335 cu336 cu138 rfl (k := 0) (by decide +kernel) (by decide) (ci := 0) rfl (q0 := 4) rfl rfl rfl (Nat.le_of_ble_eq_true rfl) dX0_firstFault_68 (by decide) (fun r3 σ2 hq H locs hw => ?_)
    refine lv_if_ne (tgt := 82) hE.1 hE.2.1 dX0_firstFault_71 (by decide) (fun c4 => ?_) (fun c4 => ?_)
    · have hq := hq.2 c4
      refine lv_aload_n hE.1 hE.2.1 dX0_firstFault_82 rfl (lv_at hl 0 rfl) ?_
      refine cgf_X0_34 hE hw dX0_firstFault_83 ?_
      refine clVv (rest := []) (As := []) hE hml hl.1 hw (c_X6_linkBlockEnds hE.2.2.2.2.2 l _ _ hq) cu337 cu338 cu339 cu340 cu25 rfl (k := 0) (by decide +kernel) (by decide) (ci := 6) rfl (q0 := 3) rfl rfl rfl (Nat.le_of_ble_eq_true rfl) dX0_firstFault_86 (by decide) (fun σ3 hq H locs hw => ?_)
      refine lv_iconst (v := (-1 : Int32)) hE.1 hE.2.1 dX0_firstFault_89 (by decide) ?_
      exact rtI hE hr hlk hw hq dX0_firstFault_90
    · have hq := hq.1 c4
      refine lv_aload_n hE.1 hE.2.1 dX0_firstFault_74 rfl (lv_at hl 0 rfl) ?_
      refine cgf_X0_30 hE hw dX0_firstFault_75 ?_
      refine cgf_X0_71 hE hw dX0_firstFault_78 ?_
      exact rtI hE hr hlk hw hq dX0_firstFault_81
set_option maxRecDepth 20000 in
set_option maxHeartbeats 4000000 in
theorem tb_X0_firstFault_b13 {p : Program} {l : Launch} {e : Env} {s : State} {m : MethodId} {args : Array Value} {below : List Frame} {meth : Method} {c : Code} {G : GG} {Φ : Int32 → S9 → Prop} {K13 : Int32 → S9 → Prop} (hE : Ev 40 G p s m args c cX0_firstFault RX0) (hml : c.maxLocals = 2) (hr : meth.sig.returnType = (some .int)) (hlk : meth.locks = false) (hK13 : ∀ (a1 : Int32) (σ : S9) (H : Heap) (locs : List Loc) (ls : Array Slot), K13 a1 σ → Pic cwl 40 G σ s.heap H locs → lv_has ls 2 [(0, .ref (gAd G 4)), (1, .int a1)] → W p l e rm_X0_firstFault s m args below meth c H locs 0 0 (QI cwl 40 G below args s Φ) (F0 m 13 ls [])) {a1 : Int32} {σ : S9} {H : Heap} {locs : List Loc} {ls : Array Slot} (hq : bd_X0_firstFault_b13 K13 Φ a1 σ) (hw : Pic cwl 40 G σ s.heap H locs) (hl : lv_has ls 2 [(0, .ref (gAd G 4)), (1, .int a1)]) : W p l e rm_X0_firstFault s m args below meth c H locs 0 0 (QI cwl 40 G below args s Φ) (F0 m 13 ls []) := by
  unfold bd_X0_firstFault_b13 at hq
  refine lv_iload_n hE.1 hE.2.1 dX0_firstFault_13 rfl (lv_at hl 1 rfl) ?_
  refine lv_sipush (v := (3000 : Int32)) hE.1 hE.2.1 dX0_firstFault_14 (by decide) ?_
  refine lv_icmp_ge (tgt := 57) hE.1 hE.2.1 dX0_firstFault_17 (by decide) (fun c1 => ?_) (fun c1 => ?_)
  · have hq := hq.1 c1
    exact tb_X0_firstFault_b57 hE hml hr hlk  hq hw (lv_sub hl [0] rfl)
  · have hq := hq.2 c1
    refine lv_aload_n hE.1 hE.2.1 dX0_firstFault_20 rfl (lv_at hl 0 rfl) ?_
    refine cgf_X0_30 hE hw dX0_firstFault_21 ?_
    refine clVi (rest := []) (As := []) hE hml hl.1 hw (c_X9_atEnd hE.2.2.2.2.2 l _ _ hq) cu182 cu183 cu184 cu185 cu165 rfl (k := 0) (by decide +kernel) (by decide) (ci := 9) rfl (q0 := 5) rfl rfl rfl (Nat.le_of_ble_eq_true rfl) dX0_firstFault_24 (by decide) (fun r2 σ1 hq H locs hw => ?_)
    refine lv_if_ne (tgt := 57) hE.1 hE.2.1 dX0_firstFault_27 (by decide) (fun c3 => ?_) (fun c3 => ?_)
    · have hq := hq.2 c3
      exact tb_X0_firstFault_b57 hE hml hr hlk  hq hw (lv_sub hl [0] rfl)
    · have hq := hq.1 c3
      refine lv_aload_n hE.1 hE.2.1 dX0_firstFault_30 rfl (lv_at hl 0 rfl) ?_
      refine lv_aload_n hE.1 hE.2.1 dX0_firstFault_31 rfl (lv_at hl 0 rfl) ?_
      refine cgf_X0_30 hE hw dX0_firstFault_32 ?_
      refine cgf_X0_57 hE hw dX0_firstFault_35 ?_
      refine clVi (rest := []) (As := [.int (σ1.1 12)]) hE hml hl.1 hw (c_X0_takes hE.2.2.2.2.2 l _ _ _ hq) cu328 cu329 cu330 cu331 cu138 rfl (k := 1) (by decide +kernel) (by decide) (ci := 0) rfl (q0 := 4) rfl rfl rfl (Nat.le_of_ble_eq_true rfl) dX0_firstFault_38 (by decide) (fun r4 σ2 hq H locs hw => ?_)
      refine lv_if_eq (tgt := 57) hE.1 hE.2.1 dX0_firstFault_41 (by decide) (fun c5 => ?_) (fun c5 => ?_)
      · have hq := hq.1 c5
        exact tb_X0_firstFault_b57 hE hml hr hlk  hq hw (lv_sub hl [0] rfl)
      · have hq := hq.2 c5
        refine lv_aload_n hE.1 hE.2.1 dX0_firstFault_44 rfl (lv_at hl 0 rfl) ?_
        refine cgf_X0_30 hE hw dX0_firstFault_45 ?_
        refine clVv (rest := []) (As := []) hE hml hl.1 hw (c_X9_toNext hE.2.2.2.2.2 l _ _ hq) cu174 cu332 cu176 cu177 cu165 rfl (k := 0) (by decide +kernel) (by decide) (ci := 9) rfl (q0 := 5) rfl rfl rfl (Nat.le_of_ble_eq_true rfl) dX0_firstFault_48 (by decide) (fun σ3 hq H locs hw => ?_)
        obtain ⟨x6, ex6⟩ : ∃ y : Int32, y = a1 + 1 := ⟨_, rfl⟩
        have hq := hq x6 ex6
        refine lv_iinc (v := x6) (lv' := [(1, .int x6), (0, .ref (gAd G 4))]) hE.1 hE.2.1 dX0_firstFault_51 hl (k := 1) rfl (by rw [ex6]; rfl) (by decide) rfl (fun ls hl => ?_)
        refine lv_goto (tgt := 13) hE.1 hE.2.1 dX0_firstFault_54 (by decide) ?_
        exact hK13 _ _ _ _ _ hq hw (lv_sub hl [1, 0] rfl)
theorem tl_X0_firstFault_b13 {p : Program} {l : Launch} {e : Env} {s : State} {m : MethodId} {args : Array Value} {below : List Frame} {meth : Method} {c : Code} {G : GG} {Φ : Int32 → S9 → Prop}  (hE : Ev 40 G p s m args c cX0_firstFault RX0) (hml : c.maxLocals = 2) (hr : meth.sig.returnType = (some .int)) (hlk : meth.locks = false)  : ∀ (n : Nat) (a1 : Int32) (σ : S9) (H : Heap) (locs : List Loc) (ls : Array Slot), lp_X0_firstFault_b13  Φ n a1 σ → Pic cwl 40 G σ s.heap H locs → lv_has ls 2 [(0, .ref (gAd G 4)), (1, .int a1)] → W p l e rm_X0_firstFault s m args below meth c H locs 0 0 (QI cwl 40 G below args s Φ) (F0 m 13 ls []) := by
  intro n
  induction n with
  | zero => intro _ _ _ _ _ hq; exact hq.elim
  | succ n ih => intro _ _ _ _ _ hq hw hl; exact tb_X0_firstFault_b13 hE hml hr hlk  ih hq hw hl
set_option maxRecDepth 20000 in
set_option maxHeartbeats 4000000 in
theorem c_X0_firstFault {G : GG} (hJ : gJ 40 G) (l : Launch)  (σ : S9) (Φ : Int32 → S9 → Prop) (hq : wp_X0_firstFault  σ Φ) : CI cwl 40 G l yX0_firstFault cX0_firstFault 2 (some .int) rm_X0_firstFault [.ref (gAd G 4)] σ Φ := by
  refine CI.intro (by decide) (Nat.le_of_ble_eq_true rfl) hJ ?_
  intro p e s m args below meth c ls hE hml hr hlk hw hl
  have hl : lv_has ls 2 [(0, .ref (gAd G 4))] := hl
  unfold wp_X0_firstFault at hq
  refine lv_aload_n hE.1 hE.2.1 dX0_firstFault_0 rfl (lv_at hl 0 rfl) ?_
  refine clVv (rest := []) (As := []) hE hml hl.1 hw (c_X0_reset hE.2.2.2.2.2 l _ _ hq) cu137 cu139 cu140 cu141 cu138 rfl (k := 0) (by decide +kernel) (by decide) (ci := 0) rfl (q0 := 4) rfl rfl rfl (Nat.le_of_ble_eq_true rfl) dX0_firstFault_1 (by decide) (fun σ1 hq H locs hw => ?_)
  refine lv_aload_n hE.1 hE.2.1 dX0_firstFault_4 rfl (lv_at hl 0 rfl) ?_
  refine cgf_X0_30 hE hw dX0_firstFault_5 ?_
  refine clVv (rest := []) (As := []) hE hml hl.1 hw (c_X9_toFirst hE.2.2.2.2.2 l _ _ hq) cu178 cu179 cu180 cu181 cu165 rfl (k := 0) (by decide +kernel) (by decide) (ci := 9) rfl (q0 := 5) rfl rfl rfl (Nat.le_of_ble_eq_true rfl) dX0_firstFault_8 (by decide) (fun σ2 hq H locs hw => ?_)
  refine lv_iconst (v := (0 : Int32)) hE.1 hE.2.1 dX0_firstFault_11 (by decide) ?_
  refine lv_topi (fun x1 ex1 => ?_)
  have hq := hq x1 ex1
  refine lv_istore_n (lv' := [(1, .int x1), (0, .ref (gAd G 4))]) hE.1 hE.2.1 dX0_firstFault_12 rfl hl (by decide) rfl (fun ls hl => ?_)
  obtain ⟨nn, hq⟩ := hq
  exact tl_X0_firstFault_b13 hE hml hr hlk  nn _ _ _ _ _ hq hw (lv_sub hl [1, 0] rfl)
/-! QueueBench.clear()I -/
abbrev rm_X10_clear : Room := { frames := 0, cells := 0, slots := 0, locals := 0 }
def wp_X10_clear  (σ : S9) (Φ : Int32 → S9 → Prop) : Prop := ∀ x1 : Int32, x1 = (σ.1 2) → ∀ σ1 : S9, σ1 = sF σ 2 (0 : Int32) → Φ x1 σ1
theorem dX10_clear_0 : decode cX10_clear 0 = .ok (.aload_n 0, 1) := by decide +kernel
theorem dX10_clear_1 : decode cX10_clear 1 = .ok (.getfield 12, 3) := by decide +kernel
theorem dX10_clear_4 : decode cX10_clear 4 = .ok (.getfield 66, 3) := by decide +kernel
theorem dX10_clear_7 : decode cX10_clear 7 = .ok (.istore_n 1, 1) := by decide +kernel
theorem dX10_clear_8 : decode cX10_clear 8 = .ok (.aload_n 0, 1) := by decide +kernel
theorem dX10_clear_9 : decode cX10_clear 9 = .ok (.getfield 12, 3) := by decide +kernel
theorem dX10_clear_12 : decode cX10_clear 12 = .ok (.iconst 0, 1) := by decide +kernel
theorem dX10_clear_13 : decode cX10_clear 13 = .ok (.putfield 66, 3) := by decide +kernel
theorem dX10_clear_16 : decode cX10_clear 16 = .ok (.iload_n 1, 1) := by decide +kernel
theorem dX10_clear_17 : decode cX10_clear 17 = .ok (.ireturn, 1) := by decide +kernel
set_option maxRecDepth 20000 in
set_option maxHeartbeats 4000000 in
theorem c_X10_clear {G : GG} (hJ : gJ 40 G) (l : Launch)  (σ : S9) (Φ : Int32 → S9 → Prop) (hq : wp_X10_clear  σ Φ) : CI cwl 40 G l yX10_clear cX10_clear 2 (some .int) rm_X10_clear [.ref (gAd G 0)] σ Φ := by
  refine CI.intro (by decide) (Nat.le_of_ble_eq_true rfl) hJ ?_
  intro p e s m args below meth c ls hE hml hr hlk hw hl
  have hl : lv_has ls 2 [(0, .ref (gAd G 0))] := hl
  unfold wp_X10_clear at hq
  refine lv_aload_n hE.1 hE.2.1 dX10_clear_0 rfl (lv_at hl 0 rfl) ?_
  refine cgf_X10_12 hE hw dX10_clear_1 ?_
  refine cgf_X10_66 hE hw dX10_clear_4 ?_
  refine lv_topi (fun x1 ex1 => ?_)
  have hq := hq x1 ex1
  refine lv_istore_n (lv' := [(1, .int x1), (0, .ref (gAd G 0))]) hE.1 hE.2.1 dX10_clear_7 rfl hl (by decide) rfl (fun ls hl => ?_)
  refine lv_aload_n hE.1 hE.2.1 dX10_clear_8 rfl (lv_at hl 1 rfl) ?_
  refine cgf_X10_12 hE hw dX10_clear_9 ?_
  refine lv_iconst (v := (0 : Int32)) hE.1 hE.2.1 dX10_clear_12 (by decide) ?_
  refine cpf_X10_66 hE hw dX10_clear_13 (fun σ1 eσ1 H locs hw => ?_)
  have hq := hq σ1 eσ1
  refine lv_iload_n hE.1 hE.2.1 dX10_clear_16 rfl (lv_at hl 0 rfl) ?_
  exact rtI hE hr hlk hw hq dX10_clear_17
/-! QueueBench.compile()I -/
abbrev rm_X10_compile : Room := { frames := 7, cells := 0, slots := 0, locals := 152 }
def wp_X10_compile  (σ : S9) (Φ : Int32 → S9 → Prop) : Prop := wp_X0_firstFault σ (fun r1 σ1 => (r1 = (-1 : Int32) → ∀ σ4 : S9, σ4 = sF σ1 0 (1 : Int32) → ∀ σ5 : S9, σ5 = sF σ4 1 (0 : Int32) → Φ (r1 + (1 : Int32)) σ5) ∧ (¬ r1 = (-1 : Int32) → ∀ σ2 : S9, σ2 = sF σ1 0 (0 : Int32) → ∀ σ3 : S9, σ3 = sF σ2 1 (0 : Int32) → Φ (r1 + (1 : Int32)) σ3))
theorem dX10_compile_0 : decode cX10_compile 0 = .ok (.aload_n 0, 1) := by decide +kernel
theorem dX10_compile_1 : decode cX10_compile 1 = .ok (.getfield 35, 3) := by decide +kernel
theorem dX10_compile_4 : decode cX10_compile 4 = .ok (.invokevirtual 81, 3) := by decide +kernel
theorem dX10_compile_7 : decode cX10_compile 7 = .ok (.istore_n 1, 1) := by decide +kernel
theorem dX10_compile_8 : decode cX10_compile 8 = .ok (.aload_n 0, 1) := by decide +kernel
theorem dX10_compile_9 : decode cX10_compile 9 = .ok (.iload_n 1, 1) := by decide +kernel
theorem dX10_compile_10 : decode cX10_compile 10 = .ok (.iconst (-1), 1) := by decide +kernel
theorem dX10_compile_11 : decode cX10_compile 11 = .ok (.if_icmp .ne 7, 3) := by decide +kernel
theorem dX10_compile_14 : decode cX10_compile 14 = .ok (.iconst 1, 1) := by decide +kernel
theorem dX10_compile_15 : decode cX10_compile 15 = .ok (.goto 4, 3) := by decide +kernel
theorem dX10_compile_18 : decode cX10_compile 18 = .ok (.iconst 0, 1) := by decide +kernel
theorem dX10_compile_19 : decode cX10_compile 19 = .ok (.putfield 85, 3) := by decide +kernel
theorem dX10_compile_22 : decode cX10_compile 22 = .ok (.aload_n 0, 1) := by decide +kernel
theorem dX10_compile_23 : decode cX10_compile 23 = .ok (.iconst 0, 1) := by decide +kernel
theorem dX10_compile_24 : decode cX10_compile 24 = .ok (.putfield 89, 3) := by decide +kernel
theorem dX10_compile_27 : decode cX10_compile 27 = .ok (.iload_n 1, 1) := by decide +kernel
theorem dX10_compile_28 : decode cX10_compile 28 = .ok (.iconst 1, 1) := by decide +kernel
theorem dX10_compile_29 : decode cX10_compile 29 = .ok (.iadd, 1) := by decide +kernel
theorem dX10_compile_30 : decode cX10_compile 30 = .ok (.ireturn, 1) := by decide +kernel
set_option maxRecDepth 20000 in
set_option maxHeartbeats 4000000 in
theorem c_X10_compile {G : GG} (hJ : gJ 40 G) (l : Launch)  (σ : S9) (Φ : Int32 → S9 → Prop) (hq : wp_X10_compile  σ Φ) : CI cwl 40 G l yX10_compile cX10_compile 2 (some .int) rm_X10_compile [.ref (gAd G 0)] σ Φ := by
  refine CI.intro (by decide) (Nat.le_of_ble_eq_true rfl) hJ ?_
  intro p e s m args below meth c ls hE hml hr hlk hw hl
  have hl : lv_has ls 2 [(0, .ref (gAd G 0))] := hl
  unfold wp_X10_compile at hq
  refine lv_aload_n hE.1 hE.2.1 dX10_compile_0 rfl (lv_at hl 0 rfl) ?_
  refine cgf_X10_35 hE hw dX10_compile_1 ?_
  refine clVi (rest := []) (As := []) hE hml hl.1 hw (c_X0_firstFault hE.2.2.2.2.2 l _ _ hq) cu343 cu344 cu345 cu346 cu138 rfl (k := 0) (by decide +kernel) (by decide) (ci := 0) rfl (q0 := 4) rfl rfl rfl (Nat.le_of_ble_eq_true rfl) dX10_compile_4 (by decide) (fun r1 σ1 hq H locs hw => ?_)
  refine lv_istore_n (lv' := [(1, .int r1), (0, .ref (gAd G 0))]) hE.1 hE.2.1 dX10_compile_7 rfl hl (by decide) rfl (fun ls hl => ?_)
  refine lv_aload_n hE.1 hE.2.1 dX10_compile_8 rfl (lv_at hl 1 rfl) ?_
  refine lv_iload_n hE.1 hE.2.1 dX10_compile_9 rfl (lv_at hl 0 rfl) ?_
  refine lv_iconst (v := (-1 : Int32)) hE.1 hE.2.1 dX10_compile_10 (by decide) ?_
  refine lv_icmp_ne (tgt := 18) hE.1 hE.2.1 dX10_compile_11 (by decide) (fun c2 => ?_) (fun c2 => ?_)
  · have hq := hq.2 c2
    refine lv_iconst (v := (0 : Int32)) hE.1 hE.2.1 dX10_compile_18 (by decide) ?_
    refine cpf_X10_85 hE hw rfl (by decide) dX10_compile_19 (fun σ2 eσ2 H locs hw => ?_)
    have hq := hq σ2 eσ2
    refine lv_aload_n hE.1 hE.2.1 dX10_compile_22 rfl (lv_at hl 1 rfl) ?_
    refine lv_iconst (v := (0 : Int32)) hE.1 hE.2.1 dX10_compile_23 (by decide) ?_
    refine cpf_X10_89 hE hw rfl (by decide) dX10_compile_24 (fun σ3 eσ3 H locs hw => ?_)
    have hq := hq σ3 eσ3
    refine lv_iload_n hE.1 hE.2.1 dX10_compile_27 rfl (lv_at hl 0 rfl) ?_
    refine lv_iconst (v := (1 : Int32)) hE.1 hE.2.1 dX10_compile_28 (by decide) ?_
    refine lv_iadd hE.1 hE.2.1 dX10_compile_29 ?_
    exact rtI hE hr hlk hw hq dX10_compile_30
  · have hq := hq.1 c2
    refine lv_iconst (v := (1 : Int32)) hE.1 hE.2.1 dX10_compile_14 (by decide) ?_
    refine lv_goto (tgt := 19) hE.1 hE.2.1 dX10_compile_15 (by decide) ?_
    refine cpf_X10_85 hE hw rfl (by decide) dX10_compile_19 (fun σ4 eσ4 H locs hw => ?_)
    have hq := hq σ4 eσ4
    refine lv_aload_n hE.1 hE.2.1 dX10_compile_22 rfl (lv_at hl 1 rfl) ?_
    refine lv_iconst (v := (0 : Int32)) hE.1 hE.2.1 dX10_compile_23 (by decide) ?_
    refine cpf_X10_89 hE hw rfl (by decide) dX10_compile_24 (fun σ5 eσ5 H locs hw => ?_)
    have hq := hq σ5 eσ5
    refine lv_iload_n hE.1 hE.2.1 dX10_compile_27 rfl (lv_at hl 0 rfl) ?_
    refine lv_iconst (v := (1 : Int32)) hE.1 hE.2.1 dX10_compile_28 (by decide) ?_
    refine lv_iadd hE.1 hE.2.1 dX10_compile_29 ?_
    exact rtI hE hr hlk hw hq dX10_compile_30
