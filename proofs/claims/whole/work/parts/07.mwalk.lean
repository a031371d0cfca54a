/-! QueueBenchModel.thrown()I -/
abbrev rm_X11_thrown : Room := { frames := 0, cells := 0, slots := 0, locals := 0 }
def wp_X11_thrown  (σ : S9) (Φ : Int32 → S9 → Prop) : Prop := Φ (σ.1 0) σ
theorem dX11_thrown_0 : decode cX11_thrown 0 = .ok (.aload_n 0, 1) := by decide +kernel
theorem dX11_thrown_1 : decode cX11_thrown 1 = .ok (.getfield 89, 3) := by decide +kernel
theorem dX11_thrown_4 : decode cX11_thrown 4 = .ok (.ireturn, 1) := by decide +kernel
set_option maxRecDepth 20000 in
set_option maxHeartbeats 4000000 in
theorem c_X11_thrown {G : GG} (hJ : gJ 27 G) (l : Launch)  (σ : S9) (Φ : Int32 → S9 → Prop) (hq : wp_X11_thrown  σ Φ) : CI mwl 27 G l yX11_thrown cX11_thrown 1 (some .int) rm_X11_thrown [.ref (gAd G 0)] σ Φ := by
  refine CI.intro (by decide) (Nat.le_of_ble_eq_true rfl) hJ ?_
  intro p e s m args below meth c ls hE hml hr hlk hw hl
  have hl : lv_has ls 1 [(0, .ref (gAd G 0))] := hl
  unfold wp_X11_thrown at hq
  refine lv_aload_n hE.1 hE.2.1 dX11_thrown_0 rfl (lv_at hl 0 rfl) ?_
  refine mgf_X11_89 hE hw dX11_thrown_1 ?_
  exact rtI hE hr hlk hw hq dX11_thrown_4
/-! QueueBenchModel.signsOf(I)I -/
abbrev rm_X11_signsOf : Room := { frames := 0, cells := 0, slots := 0, locals := 0 }
def bd_X11_signsOf_b4 (K4 : Int32 → Int32 → Int32 → S9 → Prop) (Φ : Int32 → S9 → Prop) (a0 : Int32) (a1 : Int32) (a2 : Int32) (σ : S9) : Prop := ((4 : Int32) ≤ a2 → Φ a1 σ) ∧ (¬ (4 : Int32) ≤ a2 → (((ush a0 ((8 : Int32) * a2)) &&& (255 : Int32)) = 0 → ∀ x5 : Int32, x5 = a2 + 1 → K4 a0 a1 x5 σ) ∧ (¬ ((ush a0 ((8 : Int32) * a2)) &&& (255 : Int32)) = 0 → ∀ x3 : Int32, x3 = (a1 + (1 : Int32)) → ∀ x4 : Int32, x4 = a2 + 1 → K4 a0 x3 x4 σ))
def lp_X11_signsOf_b4  (Φ : Int32 → S9 → Prop) : Nat → Int32 → Int32 → Int32 → S9 → Prop
  | 0 => fun _ _ _ _ => False
  | n + 1 => bd_X11_signsOf_b4  (lp_X11_signsOf_b4  Φ n) Φ
def wp_X11_signsOf (a0 : Int32) (σ : S9) (Φ : Int32 → S9 → Prop) : Prop := ∀ x1 : Int32, x1 = (0 : Int32) → ∀ x2 : Int32, x2 = (0 : Int32) → ∃ n : Nat, lp_X11_signsOf_b4  Φ n a0 x1 x2 σ
theorem dX11_signsOf_0 : decode cX11_signsOf 0 = .ok (.iconst 0, 1) := by decide +kernel
theorem dX11_signsOf_1 : decode cX11_signsOf 1 = .ok (.istore_n 1, 1) := by decide +kernel
theorem dX11_signsOf_2 : decode cX11_signsOf 2 = .ok (.iconst 0, 1) := by decide +kernel
theorem dX11_signsOf_3 : decode cX11_signsOf 3 = .ok (.istore_n 2, 1) := by decide +kernel
theorem dX11_signsOf_4 : decode cX11_signsOf 4 = .ok (.iload_n 2, 1) := by decide +kernel
theorem dX11_signsOf_5 : decode cX11_signsOf 5 = .ok (.iconst 4, 1) := by decide +kernel
theorem dX11_signsOf_6 : decode cX11_signsOf 6 = .ok (.if_icmp .ge 30, 3) := by decide +kernel
theorem dX11_signsOf_9 : decode cX11_signsOf 9 = .ok (.iload_n 0, 1) := by decide +kernel
theorem dX11_signsOf_10 : decode cX11_signsOf 10 = .ok (.bipush 8, 2) := by decide +kernel
theorem dX11_signsOf_12 : decode cX11_signsOf 12 = .ok (.iload_n 2, 1) := by decide +kernel
theorem dX11_signsOf_13 : decode cX11_signsOf 13 = .ok (.imul, 1) := by decide +kernel
theorem dX11_signsOf_14 : decode cX11_signsOf 14 = .ok (.iushr, 1) := by decide +kernel
theorem dX11_signsOf_15 : decode cX11_signsOf 15 = .ok (.sipush 255, 3) := by decide +kernel
theorem dX11_signsOf_18 : decode cX11_signsOf 18 = .ok (.iand, 1) := by decide +kernel
theorem dX11_signsOf_19 : decode cX11_signsOf 19 = .ok (.ifCond .ne 7, 3) := by decide +kernel
theorem dX11_signsOf_22 : decode cX11_signsOf 22 = .ok (.iload_n 1, 1) := by decide +kernel
theorem dX11_signsOf_23 : decode cX11_signsOf 23 = .ok (.goto 6, 3) := by decide +kernel
theorem dX11_signsOf_26 : decode cX11_signsOf 26 = .ok (.iload_n 1, 1) := by decide +kernel
theorem dX11_signsOf_27 : decode cX11_signsOf 27 = .ok (.iconst 1, 1) := by decide +kernel
theorem dX11_signsOf_28 : decode cX11_signsOf 28 = .ok (.iadd, 1) := by decide +kernel
theorem dX11_signsOf_29 : decode cX11_signsOf 29 = .ok (.istore_n 1, 1) := by decide +kernel
theorem dX11_signsOf_30 : decode cX11_signsOf 30 = .ok (.iinc 2 1, 3) := by decide +kernel
theorem dX11_signsOf_33 : decode cX11_signsOf 33 = .ok (.goto (-29), 3) := by decide +kernel
theorem dX11_signsOf_36 : decode cX11_signsOf 36 = .ok (.iload_n 1, 1) := by decide +kernel
theorem dX11_signsOf_37 : decode cX11_signsOf 37 = .ok (.ireturn, 1) := by decide +kernel
set_option maxRecDepth 20000 in
set_option maxHeartbeats 4000000 in
theorem tb_X11_signsOf_b4 {p : Program} {l : Launch} {e : Env} {s : State} {m : MethodId} {args : Array Value} {below : List Frame} {meth : Method} {c : Code} {G : GG} {Φ : Int32 → S9 → Prop} {K4 : Int32 → Int32 → Int32 → S9 → Prop} (hE : Ev 27 G p s m args c cX11_signsOf RX11) (hml : c.maxLocals = 3) (hr : meth.sig.returnType = (some .int)) (hlk : meth.locks = false) (hK4 : ∀ (a0 : Int32) (a1 : Int32) (a2 : Int32) (σ : S9) (H : Heap) (locs : List Loc) (ls : Array Slot), K4 a0 a1 a2 σ → Pic mwl 27 G σ s.heap H locs → lv_has ls 3 [(0, .int a0), (1, .int a1), (2, .int a2)] → W p l e rm_X11_signsOf s m args below meth c H locs 0 0 (QI mwl 27 G below args s Φ) (F0 m 4 ls [])) {a0 : Int32} {a1 : Int32} {a2 : Int32} {σ : S9} {H : Heap} {locs : List Loc} {ls : Array Slot} (hq : bd_X11_signsOf_b4 K4 Φ a0 a1 a2 σ) (hw : Pic mwl 27 G σ s.heap H locs) (hl : lv_has ls 3 [(0, .int a0), (1, .int a1), (2, .int a2)]) : W p l e rm_X11_signsOf s m args below meth c H locs 0 0 (QI mwl 27 G below args s Φ) (F0 m 4 ls []) := by
  unfold bd_X11_signsOf_b4 at hq
  refine lv_iload_n hE.1 hE.2.1 dX11_signsOf_4 rfl (lv_at hl 2 rfl) ?_
  refine lv_iconst (v := (4 : Int32)) hE.1 hE.2.1 dX11_signsOf_5 (by decide) ?_
  refine lv_icmp_ge (tgt := 36) hE.1 hE.2.1 dX11_signsOf_6 (by decide) (fun c1 => ?_) (fun c1 => ?_)
  · have hq := hq.1 c1
    refine lv_iload_n hE.1 hE.2.1 dX11_signsOf_36 rfl (lv_at hl 1 rfl) ?_
    exact rtI hE hr hlk hw hq dX11_signsOf_37
  · have hq := hq.2 c1
    refine lv_iload_n hE.1 hE.2.1 dX11_signsOf_9 rfl (lv_at hl 0 rfl) ?_
    refine lv_bipush (v := (8 : Int32)) hE.1 hE.2.1 dX11_signsOf_10 (by decide) ?_
    refine lv_iload_n hE.1 hE.2.1 dX11_signsOf_12 rfl (lv_at hl 2 rfl) ?_
    refine lv_imul hE.1 hE.2.1 dX11_signsOf_13 ?_
    refine lv_iushr (v := (ush a0 ((8 : Int32) * a2))) hE.1 hE.2.1 dX11_signsOf_14 rfl ?_
    refine lv_sipush (v := (255 : Int32)) hE.1 hE.2.1 dX11_signsOf_15 (by decide) ?_
    refine lv_iand hE.1 hE.2.1 dX11_signsOf_18 ?_
    refine lv_if_ne (tgt := 26) hE.1 hE.2.1 dX11_signsOf_19 (by decide) (fun c2 => ?_) (fun c2 => ?_)
    · have hq := hq.2 c2
      refine lv_iload_n hE.1 hE.2.1 dX11_signsOf_26 rfl (lv_at hl 1 rfl) ?_
      refine lv_iconst (v := (1 : Int32)) hE.1 hE.2.1 dX11_signsOf_27 (by decide) ?_
      refine lv_iadd hE.1 hE.2.1 dX11_signsOf_28 ?_
      refine lv_topi (fun x3 ex3 => ?_)
      have hq := hq x3 ex3
      refine lv_istore_n (lv' := [(1, .int x3), (0, .int a0), (2, .int a2)]) hE.1 hE.2.1 dX11_signsOf_29 rfl hl (by decide) rfl (fun ls hl => ?_)
      obtain ⟨x4, ex4⟩ : ∃ y : Int32, y = a2 + 1 := ⟨_, rfl⟩
      have hq := hq x4 ex4
      refine lv_iinc (v := x4) (lv' := [(2, .int x4), (1, .int x3), (0, .int a0)]) hE.1 hE.2.1 dX11_signsOf_30 hl (k := 2) rfl (by rw [ex4]; rfl) (by decide) rfl (fun ls hl => ?_)
      refine lv_goto (tgt := 4) hE.1 hE.2.1 dX11_signsOf_33 (by decide) ?_
      exact hK4 _ _ _ _ _ _ _ hq hw (lv_sub hl [2, 1, 0] rfl)
    · have hq := hq.1 c2
      refine lv_iload_n hE.1 hE.2.1 dX11_signsOf_22 rfl (lv_at hl 1 rfl) ?_
      refine lv_goto (tgt := 29) hE.1 hE.2.1 dX11_signsOf_23 (by decide) ?_
      refine lv_istore_n (lv' := [(1, .int a1), (0, .int a0), (2, .int a2)]) hE.1 hE.2.1 dX11_signsOf_29 rfl hl (by decide) rfl (fun ls hl => ?_)
      obtain ⟨x5, ex5⟩ : ∃ y : Int32, y = a2 + 1 := ⟨_, rfl⟩
      have hq := hq x5 ex5
      refine lv_iinc (v := x5) (lv' := [(2, .int x5), (1, .int a1), (0, .int a0)]) hE.1 hE.2.1 dX11_signsOf_30 hl (k := 2) rfl (by rw [ex5]; rfl) (by decide) rfl (fun ls hl => ?_)
      refine lv_goto (tgt := 4) hE.1 hE.2.1 dX11_signsOf_33 (by decide) ?_
      exact hK4 _ _ _ _ _ _ _ hq hw (lv_sub hl [2, 1, 0] rfl)
theorem tl_X11_signsOf_b4 {p : Program} {l : Launch} {e : Env} {s : State} {m : MethodId} {args : Array Value} {below : List Frame} {meth : Method} {c : Code} {G : GG} {Φ : Int32 → S9 → Prop}  (hE : Ev 27 G p s m args c cX11_signsOf RX11) (hml : c.maxLocals = 3) (hr : meth.sig.returnType = (some .int)) (hlk : meth.locks = false)  : ∀ (n : Nat) (a0 : Int32) (a1 : Int32) (a2 : Int32) (σ : S9) (H : Heap) (locs : List Loc) (ls : Array Slot), lp_X11_signsOf_b4  Φ n a0 a1 a2 σ → Pic mwl 27 G σ s.heap H locs → lv_has ls 3 [(0, .int a0), (1, .int a1), (2, .int a2)] → W p l e rm_X11_signsOf s m args below meth c H locs 0 0 (QI mwl 27 G below args s Φ) (F0 m 4 ls []) := by
  intro n
  induction n with
  | zero => intro _ _ _ _ _ _ _ hq; exact hq.elim
  | succ n ih => intro _ _ _ _ _ _ _ hq hw hl; exact tb_X11_signsOf_b4 hE hml hr hlk  ih hq hw hl
set_option maxRecDepth 20000 in
set_option maxHeartbeats 4000000 in
theorem c_X11_signsOf {G : GG} (hJ : gJ 27 G) (l : Launch) (a0 : Int32) (σ : S9) (Φ : Int32 → S9 → Prop) (hq : wp_X11_signsOf a0 σ Φ) : CI mwl 27 G l yX11_signsOf cX11_signsOf 3 (some .int) rm_X11_signsOf [.int a0] σ Φ := by
  refine CI.intro (by decide) (Nat.le_of_ble_eq_true rfl) hJ ?_
  intro p e s m args below meth c ls hE hml hr hlk hw hl
  have hl : lv_has ls 3 [(0, .int a0)] := hl
  unfold wp_X11_signsOf at hq
  refine lv_iconst (v := (0 : Int32)) hE.1 hE.2.1 dX11_signsOf_0 (by decide) ?_
  refine lv_topi (fun x1 ex1 => ?_)
  have hq := hq x1 ex1
  refine lv_istore_n (lv' := [(1, .int x1), (0, .int a0)]) hE.1 hE.2.1 dX11_signsOf_1 rfl hl (by decide) rfl (fun ls hl => ?_)
  refine lv_iconst (v := (0 : Int32)) hE.1 hE.2.1 dX11_signsOf_2 (by decide) ?_
  refine lv_topi (fun x2 ex2 => ?_)
  have hq := hq x2 ex2
  refine lv_istore_n (lv' := [(2, .int x2), (1, .int x1), (0, .int a0)]) hE.1 hE.2.1 dX11_signsOf_3 rfl hl (by decide) rfl (fun ls hl => ?_)
  obtain ⟨nn, hq⟩ := hq
  exact tl_X11_signsOf_b4 hE hml hr hlk  nn _ _ _ _ _ _ _ hq hw (lv_sub hl [2, 1, 0] rfl)
/-! QueueBenchModel.goes(ZZ)Z -/
abbrev rm_X11_goes : Room := { frames := 0, cells := 0, slots := 0, locals := 0 }
def wp_X11_goes_b18  (Φ : Int32 → S9 → Prop) (t0 : Int32) (σ : S9) : Prop := ∀ σ1 : S9, σ1 = sF σ 0 t0 → ((σ1.1 0) = 0 → Φ (1 : Int32) σ1) ∧ (¬ (σ1.1 0) = 0 → Φ (0 : Int32) σ1)
def wp_X11_goes (a1 : Int32) (a2 : Int32) (σ : S9) (Φ : Int32 → S9 → Prop) : Prop := (a1 = 0 → wp_X11_goes_b18  Φ (1 : Int32) σ) ∧ (¬ a1 = 0 → (a2 = 0 → wp_X11_goes_b18  Φ (2 : Int32) σ) ∧ (¬ a2 = 0 → wp_X11_goes_b18  Φ (0 : Int32) σ))
theorem dX11_goes_0 : decode cX11_goes 0 = .ok (.aload_n 0, 1) := by decide +kernel
theorem dX11_goes_1 : decode cX11_goes 1 = .ok (.iload_n 1, 1) := by decide +kernel
theorem dX11_goes_2 : decode cX11_goes 2 = .ok (.ifCond .ne 7, 3) := by decide +kernel
theorem dX11_goes_5 : decode cX11_goes 5 = .ok (.iconst 1, 1) := by decide +kernel
theorem dX11_goes_6 : decode cX11_goes 6 = .ok (.goto 12, 3) := by decide +kernel
theorem dX11_goes_9 : decode cX11_goes 9 = .ok (.iload_n 2, 1) := by decide +kernel
theorem dX11_goes_10 : decode cX11_goes 10 = .ok (.ifCond .ne 7, 3) := by decide +kernel
theorem dX11_goes_13 : decode cX11_goes 13 = .ok (.iconst 2, 1) := by decide +kernel
theorem dX11_goes_14 : decode cX11_goes 14 = .ok (.goto 4, 3) := by decide +kernel
theorem dX11_goes_17 : decode cX11_goes 17 = .ok (.iconst 0, 1) := by decide +kernel
theorem dX11_goes_18 : decode cX11_goes 18 = .ok (.putfield 89, 3) := by decide +kernel
theorem dX11_goes_21 : decode cX11_goes 21 = .ok (.aload_n 0, 1) := by decide +kernel
theorem dX11_goes_22 : decode cX11_goes 22 = .ok (.getfield 89, 3) := by decide +kernel
theorem dX11_goes_25 : decode cX11_goes 25 = .ok (.ifCond .ne 7, 3) := by decide +kernel
theorem dX11_goes_28 : decode cX11_goes 28 = .ok (.iconst 1, 1) := by decide +kernel
theorem dX11_goes_29 : decode cX11_goes 29 = .ok (.goto 4, 3) := by decide +kernel
theorem dX11_goes_32 : decode cX11_goes 32 = .ok (.iconst 0, 1) := by decide +kernel
theorem dX11_goes_33 : decode cX11_goes 33 = .ok (.ireturn, 1) := by decide +kernel
set_option maxRecDepth 20000 in
set_option maxHeartbeats 4000000 in
theorem tb_X11_goes_b18 {p : Program} {l : Launch} {e : Env} {s : State} {m : MethodId} {args : Array Value} {below : List Frame} {meth : Method} {c : Code} {G : GG} {Φ : Int32 → S9 → Prop}  (hE : Ev 27 G p s m args c cX11_goes RX11) (hml : c.maxLocals = 3) (hr : meth.sig.returnType = (some .boolean)) (hlk : meth.locks = false)  {t0 : Int32} {σ : S9} {H : Heap} {locs : List Loc} {ls : Array Slot} (hq : wp_X11_goes_b18  Φ t0 σ) (hw : Pic mwl 27 G σ s.heap H locs) (hl : lv_has ls 3 [(0, .ref (gAd G 0))]) : W p l e rm_X11_goes s m args below meth c H locs 0 0 (QI mwl 27 G below args s Φ) (F0 m 18 ls [.int t0, .ref (gAd G 0)]) := by
  unfold wp_X11_goes_b18 at hq
  refine mpf_X11_89 hE hw dX11_goes_18 (fun σ1 eσ1 H locs hw => ?_)
  have hq := hq σ1 eσ1
  refine lv_aload_n hE.1 hE.2.1 dX11_goes_21 rfl (lv_at hl 0 rfl) ?_
  refine mgf_X11_89 hE hw dX11_goes_22 ?_
  refine lv_if_ne (tgt := 32) hE.1 hE.2.1 dX11_goes_25 (by decide) (fun c1 => ?_) (fun c1 => ?_)
  · have hq := hq.2 c1
    refine lv_iconst (v := (0 : Int32)) hE.1 hE.2.1 dX11_goes_32 (by decide) ?_
    exact rtZ hE hr hlk rfl hw hq dX11_goes_33
  · have hq := hq.1 c1
    refine lv_iconst (v := (1 : Int32)) hE.1 hE.2.1 dX11_goes_28 (by decide) ?_
    refine lv_goto (tgt := 33) hE.1 hE.2.1 dX11_goes_29 (by decide) ?_
    exact rtZ hE hr hlk rfl hw hq dX11_goes_33
set_option maxRecDepth 20000 in
set_option maxHeartbeats 4000000 in
theorem c_X11_goes {G : GG} (hJ : gJ 27 G) (l : Launch) (a1 : Int32) (a2 : Int32) (σ : S9) (Φ : Int32 → S9 → Prop) (hq : wp_X11_goes a1 a2 σ Φ) : CI mwl 27 G l yX11_goes cX11_goes 3 (some .boolean) rm_X11_goes [.ref (gAd G 0), .int a1, .int a2] σ Φ := by
  refine CI.intro (by decide) (Nat.le_of_ble_eq_true rfl) hJ ?_
  intro p e s m args below meth c ls hE hml hr hlk hw hl
  have hl : lv_has ls 3 [(0, .ref (gAd G 0)), (1, .int a1), (2, .int a2)] := hl
  unfold wp_X11_goes at hq
  refine lv_aload_n hE.1 hE.2.1 dX11_goes_0 rfl (lv_at hl 0 rfl) ?_
  refine lv_iload_n hE.1 hE.2.1 dX11_goes_1 rfl (lv_at hl 1 rfl) ?_
  refine lv_if_ne (tgt := 9) hE.1 hE.2.1 dX11_goes_2 (by decide) (fun c1 => ?_) (fun c1 => ?_)
  · have hq := hq.2 c1
    refine lv_iload_n hE.1 hE.2.1 dX11_goes_9 rfl (lv_at hl 2 rfl) ?_
    refine lv_if_ne (tgt := 17) hE.1 hE.2.1 dX11_goes_10 (by decide) (fun c2 => ?_) (fun c2 => ?_)
    · have hq := hq.2 c2
      refine lv_iconst (v := (0 : Int32)) hE.1 hE.2.1 dX11_goes_17 (by decide) ?_
      exact tb_X11_goes_b18 hE hml hr hlk  hq hw (lv_sub hl [0] rfl)
    · have hq := hq.1 c2
      refine lv_iconst (v := (2 : Int32)) hE.1 hE.2.1 dX11_goes_13 (by decide) ?_
      refine lv_goto (tgt := 18) hE.1 hE.2.1 dX11_goes_14 (by decide) ?_
      exact tb_X11_goes_b18 hE hml hr hlk  hq hw (lv_sub hl [0] rfl)
  · have hq := hq.1 c1
    refine lv_iconst (v := (1 : Int32)) hE.1 hE.2.1 dX11_goes_5 (by decide) ?_
    refine lv_goto (tgt := 18) hE.1 hE.2.1 dX11_goes_6 (by decide) ?_
    exact tb_X11_goes_b18 hE hml hr hlk  hq hw (lv_sub hl [0] rfl)
/-! QueueBenchModel.feedOne(I)V -/
abbrev rm_X11_feedOne : Room := { frames := 0, cells := 0, slots := 0, locals := 0 }
def bd_X11_feedOne_b2 (K2 : Int32 → Int32 → S9 → Prop) (Φ : S9 → Prop) (a1 : Int32) (a2 : Int32) (σ : S9) : Prop := ((4 : Int32) ≤ a2 → Φ σ) ∧ (¬ (4 : Int32) ≤ a2 → ∀ x2 : Int32, x2 = ((ush a1 ((8 : Int32) * a2)) &&& (255 : Int32)) → (x2 = 0 → ∀ x4 : Int32, x4 = a2 + 1 → K2 a1 x4 σ) ∧ (¬ x2 = 0 → vp_in (σ.1 1) 3000 ∧ ∀ σ1 : S9, σ1 = sA σ 0 (upd (σ.2.1 0) ((σ.1 1)).toNatClampNeg x2) → ∀ σ2 : S9, σ2 = sF σ1 1 ((σ1.1 1) + (1 : Int32)) → ∀ x6 : Int32, x6 = a2 + 1 → K2 a1 x6 σ2))
def lp_X11_feedOne_b2  (Φ : S9 → Prop) : Nat → Int32 → Int32 → S9 → Prop
  | 0 => fun _ _ _ => False
  | n + 1 => bd_X11_feedOne_b2  (lp_X11_feedOne_b2  Φ n) Φ
def wp_X11_feedOne (a1 : Int32) (σ : S9) (Φ : S9 → Prop) : Prop := ∀ x1 : Int32, x1 = (0 : Int32) → ∃ n : Nat, lp_X11_feedOne_b2  Φ n a1 x1 σ
theorem dX11_feedOne_0 : decode cX11_feedOne 0 = .ok (.iconst 0, 1) := by decide +kernel
theorem dX11_feedOne_1 : decode cX11_feedOne 1 = .ok (.istore_n 2, 1) := by decide +kernel
theorem dX11_feedOne_2 : decode cX11_feedOne 2 = .ok (.iload_n 2, 1) := by decide +kernel
theorem dX11_feedOne_3 : decode cX11_feedOne 3 = .ok (.iconst 4, 1) := by decide +kernel
theorem dX11_feedOne_4 : decode cX11_feedOne 4 = .ok (.if_icmp .ge 44, 3) := by decide +kernel
theorem dX11_feedOne_7 : decode cX11_feedOne 7 = .ok (.iload_n 1, 1) := by decide +kernel
theorem dX11_feedOne_8 : decode cX11_feedOne 8 = .ok (.bipush 8, 2) := by decide +kernel
theorem dX11_feedOne_10 : decode cX11_feedOne 10 = .ok (.iload_n 2, 1) := by decide +kernel
theorem dX11_feedOne_11 : decode cX11_feedOne 11 = .ok (.imul, 1) := by decide +kernel
theorem dX11_feedOne_12 : decode cX11_feedOne 12 = .ok (.iushr, 1) := by decide +kernel
theorem dX11_feedOne_13 : decode cX11_feedOne 13 = .ok (.sipush 255, 3) := by decide +kernel
theorem dX11_feedOne_16 : decode cX11_feedOne 16 = .ok (.iand, 1) := by decide +kernel
theorem dX11_feedOne_17 : decode cX11_feedOne 17 = .ok (.istore_n 3, 1) := by decide +kernel
theorem dX11_feedOne_18 : decode cX11_feedOne 18 = .ok (.iload_n 3, 1) := by decide +kernel
theorem dX11_feedOne_19 : decode cX11_feedOne 19 = .ok (.ifCond .eq 23, 3) := by decide +kernel
theorem dX11_feedOne_22 : decode cX11_feedOne 22 = .ok (.aload_n 0, 1) := by decide +kernel
theorem dX11_feedOne_23 : decode cX11_feedOne 23 = .ok (.getfield 7, 3) := by decide +kernel
theorem dX11_feedOne_26 : decode cX11_feedOne 26 = .ok (.aload_n 0, 1) := by decide +kernel
theorem dX11_feedOne_27 : decode cX11_feedOne 27 = .ok (.getfield 93, 3) := by decide +kernel
theorem dX11_feedOne_30 : decode cX11_feedOne 30 = .ok (.iload_n 3, 1) := by decide +kernel
theorem dX11_feedOne_31 : decode cX11_feedOne 31 = .ok (.iastore, 1) := by decide +kernel
theorem dX11_feedOne_32 : decode cX11_feedOne 32 = .ok (.aload_n 0, 1) := by decide +kernel
theorem dX11_feedOne_33 : decode cX11_feedOne 33 = .ok (.dup, 1) := by decide +kernel
theorem dX11_feedOne_34 : decode cX11_feedOne 34 = .ok (.getfield 93, 3) := by decide +kernel
theorem dX11_feedOne_37 : decode cX11_feedOne 37 = .ok (.iconst 1, 1) := by decide +kernel
theorem dX11_feedOne_38 : decode cX11_feedOne 38 = .ok (.iadd, 1) := by decide +kernel
theorem dX11_feedOne_39 : decode cX11_feedOne 39 = .ok (.putfield 93, 3) := by decide +kernel
theorem dX11_feedOne_42 : decode cX11_feedOne 42 = .ok (.iinc 2 1, 3) := by decide +kernel
theorem dX11_feedOne_45 : decode cX11_feedOne 45 = .ok (.goto (-43), 3) := by decide +kernel
theorem dX11_feedOne_48 : decode cX11_feedOne 48 = .ok (.return_, 1) := by decide +kernel
set_option maxRecDepth 20000 in
set_option maxHeartbeats 4000000 in
theorem tb_X11_feedOne_b2 {p : Program} {l : Launch} {e : Env} {s : State} {m : MethodId} {args : Array Value} {below : List Frame} {meth : Method} {c : Code} {G : GG} {Φ : S9 → Prop} {K2 : Int32 → Int32 → S9 → Prop} (hE : Ev 27 G p s m args c cX11_feedOne RX11) (hml : c.maxLocals = 4) (hr : meth.sig.returnType = none) (hlk : meth.locks = false) (hK2 : ∀ (a1 : Int32) (a2 : Int32) (σ : S9) (H : Heap) (locs : List Loc) (ls : Array Slot), K2 a1 a2 σ → Pic mwl 27 G σ s.heap H locs → lv_has ls 4 [(0, .ref (gAd G 0)), (1, .int a1), (2, .int a2)] → W p l e rm_X11_feedOne s m args below meth c H locs 0 0 (QV mwl 27 G below args s Φ) (F0 m 2 ls [])) {a1 : Int32} {a2 : Int32} {σ : S9} {H : Heap} {locs : List Loc} {ls : Array Slot} (hq : bd_X11_feedOne_b2 K2 Φ a1 a2 σ) (hw : Pic mwl 27 G σ s.heap H locs) (hl : lv_has ls 4 [(0, .ref (gAd G 0)), (1, .int a1), (2, .int a2)]) : W p l e rm_X11_feedOne s m args below meth c H locs 0 0 (QV mwl 27 G below args s Φ) (F0 m 2 ls []) := by
  unfold bd_X11_feedOne_b2 at hq
  refine lv_iload_n hE.1 hE.2.1 dX11_feedOne_2 rfl (lv_at hl 2 rfl) ?_
  refine lv_iconst (v := (4 : Int32)) hE.1 hE.2.1 dX11_feedOne_3 (by decide) ?_
  refine lv_icmp_ge (tgt := 48) hE.1 hE.2.1 dX11_feedOne_4 (by decide) (fun c1 => ?_) (fun c1 => ?_)
  · have hq := hq.1 c1
    exact rtV hE hr hlk hw hq dX11_feedOne_48
  · have hq := hq.2 c1
    refine lv_iload_n hE.1 hE.2.1 dX11_feedOne_7 rfl (lv_at hl 1 rfl) ?_
    refine lv_bipush (v := (8 : Int32)) hE.1 hE.2.1 dX11_feedOne_8 (by decide) ?_
    refine lv_iload_n hE.1 hE.2.1 dX11_feedOne_10 rfl (lv_at hl 2 rfl) ?_
    refine lv_imul hE.1 hE.2.1 dX11_feedOne_11 ?_
    refine lv_iushr (v := (ush a1 ((8 : Int32) * a2))) hE.1 hE.2.1 dX11_feedOne_12 rfl ?_
    refine lv_sipush (v := (255 : Int32)) hE.1 hE.2.1 dX11_feedOne_13 (by decide) ?_
    refine lv_iand hE.1 hE.2.1 dX11_feedOne_16 ?_
    refine lv_topi (fun x2 ex2 => ?_)
    have hq := hq x2 ex2
    refine lv_istore_n (lv' := [(3, .int x2), (0, .ref (gAd G 0)), (1, .int a1), (2, .int a2)]) hE.1 hE.2.1 dX11_feedOne_17 rfl hl (by decide) rfl (fun ls hl => ?_)
    refine lv_iload_n hE.1 hE.2.1 dX11_feedOne_18 rfl (lv_at hl 0 rfl) ?_
    refine lv_if_eq (tgt := 42) hE.1 hE.2.1 dX11_feedOne_19 (by decide) (fun c3 => ?_) (fun c3 => ?_)
    · have hq := hq.1 c3
      obtain ⟨x4, ex4⟩ : ∃ y : Int32, y = a2 + 1 := ⟨_, rfl⟩
      have hq := hq x4 ex4
      refine lv_iinc (v := x4) (lv' := [(2, .int x4), (3, .int x2), (0, .ref (gAd G 0)), (1, .int a1)]) hE.1 hE.2.1 dX11_feedOne_42 hl (k := 3) rfl (by rw [ex4]; rfl) (by decide) rfl (fun ls hl => ?_)
      refine lv_goto (tgt := 2) hE.1 hE.2.1 dX11_feedOne_45 (by decide) ?_
      exact hK2 _ _ _ _ _ _ hq hw (lv_sub hl [2, 3, 0] rfl)
    · have hq := hq.2 c3
      refine lv_aload_n hE.1 hE.2.1 dX11_feedOne_22 rfl (lv_at hl 1 rfl) ?_
      refine mgf_X11_7 hE hw dX11_feedOne_23 ?_
      refine lv_aload_n hE.1 hE.2.1 dX11_feedOne_26 rfl (lv_at hl 1 rfl) ?_
      refine mgf_X11_93 hE hw dX11_feedOne_27 ?_
      refine lv_iload_n hE.1 hE.2.1 dX11_feedOne_30 rfl (lv_at hl 0 rfl) ?_
      obtain ⟨hi5, hq⟩ := hq
      refine mas_1 hE hw hi5 dX11_feedOne_31 (fun σ1 eσ1 H locs hw => ?_)
      have hq := hq σ1 eσ1
      refine lv_aload_n hE.1 hE.2.1 dX11_feedOne_32 rfl (lv_at hl 1 rfl) ?_
      refine lv_dup hE.1 hE.2.1 dX11_feedOne_33 rfl ?_
      refine mgf_X11_93 hE hw dX11_feedOne_34 ?_
      refine lv_iconst (v := (1 : Int32)) hE.1 hE.2.1 dX11_feedOne_37 (by decide) ?_
      refine lv_iadd hE.1 hE.2.1 dX11_feedOne_38 ?_
      refine mpf_X11_93 hE hw dX11_feedOne_39 (fun σ2 eσ2 H locs hw => ?_)
      have hq := hq σ2 eσ2
      obtain ⟨x6, ex6⟩ : ∃ y : Int32, y = a2 + 1 := ⟨_, rfl⟩
      have hq := hq x6 ex6
      refine lv_iinc (v := x6) (lv' := [(2, .int x6), (3, .int x2), (0, .ref (gAd G 0)), (1, .int a1)]) hE.1 hE.2.1 dX11_feedOne_42 hl (k := 3) rfl (by rw [ex6]; rfl) (by decide) rfl (fun ls hl => ?_)
      refine lv_goto (tgt := 2) hE.1 hE.2.1 dX11_feedOne_45 (by decide) ?_
      exact hK2 _ _ _ _ _ _ hq hw (lv_sub hl [2, 3, 0] rfl)
theorem tl_X11_feedOne_b2 {p : Program} {l : Launch} {e : Env} {s : State} {m : MethodId} {args : Array Value} {below : List Frame} {meth : Method} {c : Code} {G : GG} {Φ : S9 → Prop}  (hE : Ev 27 G p s m args c cX11_feedOne RX11) (hml : c.maxLocals = 4) (hr : meth.sig.returnType = none) (hlk : meth.locks = false)  : ∀ (n : Nat) (a1 : Int32) (a2 : Int32) (σ : S9) (H : Heap) (locs : List Loc) (ls : Array Slot), lp_X11_feedOne_b2  Φ n a1 a2 σ → Pic mwl 27 G σ s.heap H locs → lv_has ls 4 [(0, .ref (gAd G 0)), (1, .int a1), (2, .int a2)] → W p l e rm_X11_feedOne s m args below meth c H locs 0 0 (QV mwl 27 G below args s Φ) (F0 m 2 ls []) := by
  intro n
  induction n with
  | zero => intro _ _ _ _ _ _ hq; exact hq.elim
  | succ n ih => intro _ _ _ _ _ _ hq hw hl; exact tb_X11_feedOne_b2 hE hml hr hlk  ih hq hw hl
set_option maxRecDepth 20000 in
set_option maxHeartbeats 4000000 in
theorem c_X11_feedOne {G : GG} (hJ : gJ 27 G) (l : Launch) (a1 : Int32) (σ : S9) (Φ : S9 → Prop) (hq : wp_X11_feedOne a1 σ Φ) : CV mwl 27 G l yX11_feedOne cX11_feedOne 4 rm_X11_feedOne [.ref (gAd G 0), .int a1] σ Φ := by
  refine CV.intro (by decide) (Nat.le_of_ble_eq_true rfl) hJ ?_
  intro p e s m args below meth c ls hE hml hr hlk hw hl
  have hl : lv_has ls 4 [(0, .ref (gAd G 0)), (1, .int a1)] := hl
  unfold wp_X11_feedOne at hq
  refine lv_iconst (v := (0 : Int32)) hE.1 hE.2.1 dX11_feedOne_0 (by decide) ?_
  refine lv_topi (fun x1 ex1 => ?_)
  have hq := hq x1 ex1
  refine lv_istore_n (lv' := [(2, .int x1), (0, .ref (gAd G 0)), (1, .int a1)]) hE.1 hE.2.1 dX11_feedOne_1 rfl hl (by decide) rfl (fun ls hl => ?_)
  obtain ⟨nn, hq⟩ := hq
  exact tl_X11_feedOne_b2 hE hml hr hlk  nn _ _ _ _ _ _ hq hw (lv_sub hl [1, 2, 0] rfl)
/-! QueueBenchModel.feed(IIIII)I -/
abbrev rm_X11_feed : Room := { frames := 1, cells := 0, slots := 0, locals := 23 }
def wp_X11_feed_b43  (Φ : Int32 → S9 → Prop) (a1 : Int32) (a2 : Int32) (a3 : Int32) (a4 : Int32) (a5 : Int32) (t0 : Int32) (σ : S9) : Prop := wp_X11_goes t0 (1 : Int32) σ (fun r1 σ1 => (r1 = 0 → Φ (0 : Int32) σ1) ∧ (¬ r1 = 0 → wp_X11_feedOne a1 σ1 (fun σ2 => wp_X11_feedOne a2 σ2 (fun σ3 => wp_X11_feedOne a3 σ3 (fun σ4 => wp_X11_feedOne a4 σ4 (fun σ5 => wp_X11_feedOne a5 σ5 (fun σ6 => Φ (σ6.1 1) σ6)))))))
def wp_X11_feed (a1 : Int32) (a2 : Int32) (a3 : Int32) (a4 : Int32) (a5 : Int32) (σ : S9) (Φ : Int32 → S9 → Prop) : Prop := wp_X11_signsOf a1 σ (fun r1 σ1 => wp_X11_signsOf a2 σ1 (fun r2 σ2 => wp_X11_signsOf a3 σ2 (fun r3 σ3 => wp_X11_signsOf a4 σ3 (fun r4 σ4 => wp_X11_signsOf a5 σ4 (fun r5 σ5 => ((3000 : Int32) < ((((((σ.1 1) + r1) + r2) + r3) + r4) + r5) → wp_X11_feed_b43  Φ a1 a2 a3 a4 a5 (0 : Int32) σ5) ∧ (¬ (3000 : Int32) < ((((((σ.1 1) + r1) + r2) + r3) + r4) + r5) → wp_X11_feed_b43  Φ a1 a2 a3 a4 a5 (1 : Int32) σ5))))))
theorem dX11_feed_0 : decode cX11_feed 0 = .ok (.aload_n 0, 1) := by decide +kernel
theorem dX11_feed_1 : decode cX11_feed 1 = .ok (.aload_n 0, 1) := by decide +kernel
theorem dX11_feed_2 : decode cX11_feed 2 = .ok (.getfield 93, 3) := by decide +kernel
theorem dX11_feed_5 : decode cX11_feed 5 = .ok (.iload_n 1, 1) := by decide +kernel
theorem dX11_feed_6 : decode cX11_feed 6 = .ok (.invokestatic 96, 3) := by decide +kernel
theorem dX11_feed_9 : decode cX11_feed 9 = .ok (.iadd, 1) := by decide +kernel
theorem dX11_feed_10 : decode cX11_feed 10 = .ok (.iload_n 2, 1) := by decide +kernel
theorem dX11_feed_11 : decode cX11_feed 11 = .ok (.invokestatic 96, 3) := by decide +kernel
theorem dX11_feed_14 : decode cX11_feed 14 = .ok (.iadd, 1) := by decide +kernel
theorem dX11_feed_15 : decode cX11_feed 15 = .ok (.iload_n 3, 1) := by decide +kernel
theorem dX11_feed_16 : decode cX11_feed 16 = .ok (.invokestatic 96, 3) := by decide +kernel
theorem dX11_feed_19 : decode cX11_feed 19 = .ok (.iadd, 1) := by decide +kernel
theorem dX11_feed_20 : decode cX11_feed 20 = .ok (.iload 4, 2) := by decide +kernel
theorem dX11_feed_22 : decode cX11_feed 22 = .ok (.invokestatic 96, 3) := by decide +kernel
theorem dX11_feed_25 : decode cX11_feed 25 = .ok (.iadd, 1) := by decide +kernel
theorem dX11_feed_26 : decode cX11_feed 26 = .ok (.iload 5, 2) := by decide +kernel
theorem dX11_feed_28 : decode cX11_feed 28 = .ok (.invokestatic 96, 3) := by decide +kernel
theorem dX11_feed_31 : decode cX11_feed 31 = .ok (.iadd, 1) := by decide +kernel
theorem dX11_feed_32 : decode cX11_feed 32 = .ok (.sipush 3000, 3) := by decide +kernel
theorem dX11_feed_35 : decode cX11_feed 35 = .ok (.if_icmp .gt 7, 3) := by decide +kernel
theorem dX11_feed_38 : decode cX11_feed 38 = .ok (.iconst 1, 1) := by decide +kernel
theorem dX11_feed_39 : decode cX11_feed 39 = .ok (.goto 4, 3) := by decide +kernel
theorem dX11_feed_42 : decode cX11_feed 42 = .ok (.iconst 0, 1) := by decide +kernel
theorem dX11_feed_43 : decode cX11_feed 43 = .ok (.iconst 1, 1) := by decide +kernel
theorem dX11_feed_44 : decode cX11_feed 44 = .ok (.invokevirtual 100, 3) := by decide +kernel
theorem dX11_feed_47 : decode cX11_feed 47 = .ok (.ifCond .ne 5, 3) := by decide +kernel
theorem dX11_feed_50 : decode cX11_feed 50 = .ok (.iconst 0, 1) := by decide +kernel
theorem dX11_feed_51 : decode cX11_feed 51 = .ok (.ireturn, 1) := by decide +kernel
theorem dX11_feed_52 : decode cX11_feed 52 = .ok (.aload_n 0, 1) := by decide +kernel
theorem dX11_feed_53 : decode cX11_feed 53 = .ok (.iload_n 1, 1) := by decide +kernel
theorem dX11_feed_54 : decode cX11_feed 54 = .ok (.invokevirtual 104, 3) := by decide +kernel
theorem dX11_feed_57 : decode cX11_feed 57 = .ok (.aload_n 0, 1) := by decide +kernel
theorem dX11_feed_58 : decode cX11_feed 58 = .ok (.iload_n 2, 1) := by decide +kernel
theorem dX11_feed_59 : decode cX11_feed 59 = .ok (.invokevirtual 104, 3) := by decide +kernel
theorem dX11_feed_62 : decode cX11_feed 62 = .ok (.aload_n 0, 1) := by decide +kernel
theorem dX11_feed_63 : decode cX11_feed 63 = .ok (.iload_n 3, 1) := by decide +kernel
theorem dX11_feed_64 : decode cX11_feed 64 = .ok (.invokevirtual 104, 3) := by decide +kernel
theorem dX11_feed_67 : decode cX11_feed 67 = .ok (.aload_n 0, 1) := by decide +kernel
theorem dX11_feed_68 : decode cX11_feed 68 = .ok (.iload 4, 2) := by decide +kernel
theorem dX11_feed_70 : decode cX11_feed 70 = .ok (.invokevirtual 104, 3) := by decide +kernel
theorem dX11_feed_73 : decode cX11_feed 73 = .ok (.aload_n 0, 1) := by decide +kernel
theorem dX11_feed_74 : decode cX11_feed 74 = .ok (.iload 5, 2) := by decide +kernel
theorem dX11_feed_76 : decode cX11_feed 76 = .ok (.invokevirtual 104, 3) := by decide +kernel
theorem dX11_feed_79 : decode cX11_feed 79 = .ok (.aload_n 0, 1) := by decide +kernel
theorem dX11_feed_80 : decode cX11_feed 80 = .ok (.getfield 93, 3) := by decide +kernel
theorem dX11_feed_83 : decode cX11_feed 83 = .ok (.ireturn, 1) := by decide +kernel
set_option maxRecDepth 20000 in
set_option maxHeartbeats 4000000 in
theorem tb_X11_feed_b43 {p : Program} {l : Launch} {e : Env} {s : State} {m : MethodId} {args : Array Value} {below : List Frame} {meth : Method} {c : Code} {G : GG} {Φ : Int32 → S9 → Prop}  (hE : Ev 27 G p s m args c cX11_feed RX11) (hml : c.maxLocals = 6) (hr : meth.sig.returnType = (some .int)) (hlk : meth.locks = false)  {a1 : Int32} {a2 : Int32} {a3 : Int32} {a4 : Int32} {a5 : Int32} {t0 : Int32} {σ : S9} {H : Heap} {locs : List Loc} {ls : Array Slot} (hq : wp_X11_feed_b43  Φ a1 a2 a3 a4 a5 t0 σ) (hw : Pic mwl 27 G σ s.heap H locs) (hl : lv_has ls 6 [(0, .ref (gAd G 0)), (1, .int a1), (2, .int a2), (3, .int a3), (4, .int a4), (5, .int a5)]) : W p l e rm_X11_feed s m args below meth c H locs 0 0 (QI mwl 27 G below args s Φ) (F0 m 43 ls [.int t0, .ref (gAd G 0)]) := by
  unfold wp_X11_feed_b43 at hq
  refine lv_iconst (v := (1 : Int32)) hE.1 hE.2.1 dX11_feed_43 (by decide) ?_
  refine clVi (rest := []) (As := [.int t0, .int (1 : Int32)]) hE hml hl.1 hw (c_X11_goes hE.2.2.2.2.2 l _ _ _ _ hq) mu6 mu7 mu8 mu9 mu3 rfl (k := 2) (by decide +kernel) (by decide) (ci := 11) rfl (q0 := 0) rfl rfl rfl (Nat.le_of_ble_eq_true rfl) dX11_feed_44 (by decide) (fun r1 σ1 hq H locs hw => ?_)
  refine lv_if_ne (tgt := 52) hE.1 hE.2.1 dX11_feed_47 (by decide) (fun c2 => ?_) (fun c2 => ?_)
  · have hq := hq.2 c2
    refine lv_aload_n hE.1 hE.2.1 dX11_feed_52 rfl (lv_at hl 0 rfl) ?_
    refine lv_iload_n hE.1 hE.2.1 dX11_feed_53 rfl (lv_at hl 1 rfl) ?_
    refine clVv (rest := []) (As := [.int a1]) hE hml hl.1 hw (c_X11_feedOne hE.2.2.2.2.2 l _ _ _ hq) mu11 mu12 mu13 mu14 mu3 rfl (k := 1) (by decide +kernel) (by decide) (ci := 11) rfl (q0 := 0) rfl rfl rfl (Nat.le_of_ble_eq_true rfl) dX11_feed_54 (by decide) (fun σ2 hq H locs hw => ?_)
    refine lv_aload_n hE.1 hE.2.1 dX11_feed_57 rfl (lv_at hl 0 rfl) ?_
    refine lv_iload_n hE.1 hE.2.1 dX11_feed_58 rfl (lv_at hl 2 rfl) ?_
    refine clVv (rest := []) (As := [.int a2]) hE hml hl.1 hw (c_X11_feedOne hE.2.2.2.2.2 l _ _ _ hq) mu11 mu12 mu13 mu14 mu3 rfl (k := 1) (by decide +kernel) (by decide) (ci := 11) rfl (q0 := 0) rfl rfl rfl (Nat.le_of_ble_eq_true rfl) dX11_feed_59 (by decide) (fun σ3 hq H locs hw => ?_)
    refine lv_aload_n hE.1 hE.2.1 dX11_feed_62 rfl (lv_at hl 0 rfl) ?_
    refine lv_iload_n hE.1 hE.2.1 dX11_feed_63 rfl (lv_at hl 3 rfl) ?_
    refine clVv (rest := []) (As := [.int a3]) hE hml hl.1 hw (c_X11_feedOne hE.2.2.2.2.2 l _ _ _ hq) mu11 mu12 mu13 mu14 mu3 rfl (k := 1) (by decide +kernel) (by decide) (ci := 11) rfl (q0 := 0) rfl rfl rfl (Nat.le_of_ble_eq_true rfl) dX11_feed_64 (by decide) (fun σ4 hq H locs hw => ?_)
    refine lv_aload_n hE.1 hE.2.1 dX11_feed_67 rfl (lv_at hl 0 rfl) ?_
    refine lv_iload hE.1 hE.2.1 dX11_feed_68 (lv_at hl 4 rfl) ?_
    refine clVv (rest := []) (As := [.int a4]) hE hml hl.1 hw (c_X11_feedOne hE.2.2.2.2.2 l _ _ _ hq) mu11 mu12 mu13 mu14 mu3 rfl (k := 1) (by decide +kernel) (by decide) (ci := 11) rfl (q0 := 0) rfl rfl rfl (Nat.le_of_ble_eq_true rfl) dX11_feed_70 (by decide) (fun σ5 hq H locs hw => ?_)
    refine lv_aload_n hE.1 hE.2.1 dX11_feed_73 rfl (lv_at hl 0 rfl) ?_
    refine lv_iload hE.1 hE.2.1 dX11_feed_74 (lv_at hl 5 rfl) ?_
    refine clVv (rest := []) (As := [.int a5]) hE hml hl.1 hw (c_X11_feedOne hE.2.2.2.2.2 l _ _ _ hq) mu11 mu12 mu13 mu14 mu3 rfl (k := 1) (by decide +kernel) (by decide) (ci := 11) rfl (q0 := 0) rfl rfl rfl (Nat.le_of_ble_eq_true rfl) dX11_feed_76 (by decide) (fun σ6 hq H locs hw => ?_)
    refine lv_aload_n hE.1 hE.2.1 dX11_feed_79 rfl (lv_at hl 0 rfl) ?_
    refine mgf_X11_93 hE hw dX11_feed_80 ?_
    exact rtI hE hr hlk hw hq dX11_feed_83
  · have hq := hq.1 c2
    refine lv_iconst (v := (0 : Int32)) hE.1 hE.2.1 dX11_feed_50 (by decide) ?_
    exact rtI hE hr hlk hw hq dX11_feed_51
set_option maxRecDepth 20000 in
set_option maxHeartbeats 4000000 in
theorem c_X11_feed {G : GG} (hJ : gJ 27 G) (l : Launch) (a1 : Int32) (a2 : Int32) (a3 : Int32) (a4 : Int32) (a5 : Int32) (σ : S9) (Φ : Int32 → S9 → Prop) (hq : wp_X11_feed a1 a2 a3 a4 a5 σ Φ) : CI mwl 27 G l yX11_feed cX11_feed 6 (some .int) rm_X11_feed [.ref (gAd G 0), .int a1, .int a2, .int a3, .int a4, .int a5] σ Φ := by
  refine CI.intro (by decide) (Nat.le_of_ble_eq_true rfl) hJ ?_
  intro p e s m args below meth c ls hE hml hr hlk hw hl
  have hl : lv_has ls 6 [(0, .ref (gAd G 0)), (1, .int a1), (2, .int a2), (3, .int a3), (4, .int a4), (5, .int a5)] := hl
  unfold wp_X11_feed at hq
  refine lv_aload_n hE.1 hE.2.1 dX11_feed_0 rfl (lv_at hl 0 rfl) ?_
  refine lv_aload_n hE.1 hE.2.1 dX11_feed_1 rfl (lv_at hl 0 rfl) ?_
  refine mgf_X11_93 hE hw dX11_feed_2 ?_
  refine lv_iload_n hE.1 hE.2.1 dX11_feed_5 rfl (lv_at hl 1 rfl) ?_
  refine clSi (rest := [.int (σ.1 1), .ref (gAd G 0)]) (As := [.int a1]) hE hml hl.1 hw (c_X11_signsOf hE.2.2.2.2.2 l _ _ _ hq) mu2 mu4 mu5 mu3 (k := 1) (by decide +kernel) (by decide) rfl rfl (Nat.le_of_ble_eq_true rfl) dX11_feed_6 (by decide) (fun r1 σ1 hq H locs hw => ?_)
  refine lv_iadd hE.1 hE.2.1 dX11_feed_9 ?_
  refine lv_iload_n hE.1 hE.2.1 dX11_feed_10 rfl (lv_at hl 2 rfl) ?_
  refine clSi (rest := [.int ((σ.1 1) + r1), .ref (gAd G 0)]) (As := [.int a2]) hE hml hl.1 hw (c_X11_signsOf hE.2.2.2.2.2 l _ _ _ hq) mu2 mu4 mu5 mu3 (k := 1) (by decide +kernel) (by decide) rfl rfl (Nat.le_of_ble_eq_true rfl) dX11_feed_11 (by decide) (fun r2 σ2 hq H locs hw => ?_)
  refine lv_iadd hE.1 hE.2.1 dX11_feed_14 ?_
  refine lv_iload_n hE.1 hE.2.1 dX11_feed_15 rfl (lv_at hl 3 rfl) ?_
  refine clSi (rest := [.int (((σ.1 1) + r1) + r2), .ref (gAd G 0)]) (As := [.int a3]) hE hml hl.1 hw (c_X11_signsOf hE.2.2.2.2.2 l _ _ _ hq) mu2 mu4 mu5 mu3 (k := 1) (by decide +kernel) (by decide) rfl rfl (Nat.le_of_ble_eq_true rfl) dX11_feed_16 (by decide) (fun r3 σ3 hq H locs hw => ?_)
  refine lv_iadd hE.1 hE.2.1 dX11_feed_19 ?_
  refine lv_iload hE.1 hE.2.1 dX11_feed_20 (lv_at hl 4 rfl) ?_
  refine clSi (rest := [.int ((((σ.1 1) + r1) + r2) + r3), .ref (gAd G 0)]) (As := [.int a4]) hE hml hl.1 hw (c_X11_signsOf hE.2.2.2.2.2 l _ _ _ hq) mu2 mu4 mu5 mu3 (k := 1) (by decide +kernel) (by decide) rfl rfl (Nat.le_of_ble_eq_true rfl) dX11_feed_22 (by decide) (fun r4 σ4 hq H locs hw => ?_)
  refine lv_iadd hE.1 hE.2.1 dX11_feed_25 ?_
  refine lv_iload hE.1 hE.2.1 dX11_feed_26 (lv_at hl 5 rfl) ?_
  refine clSi (rest := [.int (((((σ.1 1) + r1) + r2) + r3) + r4), .ref (gAd G 0)]) (As := [.int a5]) hE hml hl.1 hw (c_X11_signsOf hE.2.2.2.2.2 l _ _ _ hq) mu2 mu4 mu5 mu3 (k := 1) (by decide +kernel) (by decide) rfl rfl (Nat.le_of_ble_eq_true rfl) dX11_feed_28 (by decide) (fun r5 σ5 hq H locs hw => ?_)
  refine lv_iadd hE.1 hE.2.1 dX11_feed_31 ?_
  refine lv_sipush (v := (3000 : Int32)) hE.1 hE.2.1 dX11_feed_32 (by decide) ?_
  refine lv_icmp_gt (tgt := 42) hE.1 hE.2.1 dX11_feed_35 (by decide) (fun c6 => ?_) (fun c6 => ?_)
  · have hq := hq.1 c6
    refine lv_iconst (v := (0 : Int32)) hE.1 hE.2.1 dX11_feed_42 (by decide) ?_
    exact tb_X11_feed_b43 hE hml hr hlk  hq hw (lv_sub hl [0, 1, 2, 3, 4, 5] rfl)
  · have hq := hq.2 c6
    refine lv_iconst (v := (1 : Int32)) hE.1 hE.2.1 dX11_feed_38 (by decide) ?_
    refine lv_goto (tgt := 43) hE.1 hE.2.1 dX11_feed_39 (by decide) ?_
    exact tb_X11_feed_b43 hE hml hr hlk  hq hw (lv_sub hl [0, 1, 2, 3, 4, 5] rfl)
/-! QueueBenchModel.clear()I -/
abbrev rm_X11_clear : Room := { frames := 0, cells := 0, slots := 0, locals := 0 }
def wp_X11_clear  (σ : S9) (Φ : Int32 → S9 → Prop) : Prop := ∀ σ1 : S9, σ1 = sF σ 0 (0 : Int32) → ∀ x1 : Int32, x1 = (σ1.1 1) → ∀ σ2 : S9, σ2 = sF σ1 1 (0 : Int32) → Φ x1 σ2
theorem dX11_clear_0 : decode cX11_clear 0 = .ok (.aload_n 0, 1) := by decide +kernel
theorem dX11_clear_1 : decode cX11_clear 1 = .ok (.iconst 0, 1) := by decide +kernel
theorem dX11_clear_2 : decode cX11_clear 2 = .ok (.putfield 89, 3) := by decide +kernel
theorem dX11_clear_5 : decode cX11_clear 5 = .ok (.aload_n 0, 1) := by decide +kernel
theorem dX11_clear_6 : decode cX11_clear 6 = .ok (.getfield 93, 3) := by decide +kernel
theorem dX11_clear_9 : decode cX11_clear 9 = .ok (.istore_n 1, 1) := by decide +kernel
theorem dX11_clear_10 : decode cX11_clear 10 = .ok (.aload_n 0, 1) := by decide +kernel
theorem dX11_clear_11 : decode cX11_clear 11 = .ok (.iconst 0, 1) := by decide +kernel
theorem dX11_clear_12 : decode cX11_clear 12 = .ok (.putfield 93, 3) := by decide +kernel
theorem dX11_clear_15 : decode cX11_clear 15 = .ok (.iload_n 1, 1) := by decide +kernel
theorem dX11_clear_16 : decode cX11_clear 16 = .ok (.ireturn, 1) := by decide +kernel
set_option maxRecDepth 20000 in
set_option maxHeartbeats 4000000 in
theorem c_X11_clear {G : GG} (hJ : gJ 27 G) (l : Launch)  (σ : S9) (Φ : Int32 → S9 → Prop) (hq : wp_X11_clear  σ Φ) : CI mwl 27 G l yX11_clear cX11_clear 2 (some .int) rm_X11_clear [.ref (gAd G 0)] σ Φ := by
  refine CI.intro (by decide) (Nat.le_of_ble_eq_true rfl) hJ ?_
  intro p e s m args below meth c ls hE hml hr hlk hw hl
  have hl : lv_has ls 2 [(0, .ref (gAd G 0))] := hl
  unfold wp_X11_clear at hq
  refine lv_aload_n hE.1 hE.2.1 dX11_clear_0 rfl (lv_at hl 0 rfl) ?_
  refine lv_iconst (v := (0 : Int32)) hE.1 hE.2.1 dX11_clear_1 (by decide) ?_
  refine mpf_X11_89 hE hw dX11_clear_2 (fun σ1 eσ1 H locs hw => ?_)
  have hq := hq σ1 eσ1
  refine lv_aload_n hE.1 hE.2.1 dX11_clear_5 rfl (lv_at hl 0 rfl) ?_
  refine mgf_X11_93 hE hw dX11_clear_6 ?_
  refine lv_topi (fun x1 ex1 => ?_)
  have hq := hq x1 ex1
  refine lv_istore_n (lv' := [(1, .int x1), (0, .ref (gAd G 0))]) hE.1 hE.2.1 dX11_clear_9 rfl hl (by decide) rfl (fun ls hl => ?_)
  refine lv_aload_n hE.1 hE.2.1 dX11_clear_10 rfl (lv_at hl 1 rfl) ?_
  refine lv_iconst (v := (0 : Int32)) hE.1 hE.2.1 dX11_clear_11 (by decide) ?_
  refine mpf_X11_93 hE hw dX11_clear_12 (fun σ2 eσ2 H locs hw => ?_)
  have hq := hq σ2 eσ2
  refine lv_iload_n hE.1 hE.2.1 dX11_clear_15 rfl (lv_at hl 0 rfl) ?_
  exact rtI hE hr hlk hw hq dX11_clear_16
/-! QueueBenchModel.word(III)V -/
abbrev rm_X11_word : Room := { frames := 0, cells := 0, slots := 0, locals := 0 }
def wp_X11_word (a1 : Int32) (a2 : Int32) (a3 : Int32) (σ : S9) (Φ : S9 → Prop) : Prop := vp_in (σ.1 2) 3002 ∧ ∀ σ1 : S9, σ1 = sA σ 1 (upd (σ.2.1 1) ((σ.1 2)).toNatClampNeg a1) → vp_in (σ1.1 2) 3002 ∧ ∀ σ2 : S9, σ2 = sA σ1 2 (upd (σ1.2.1 2) ((σ1.1 2)).toNatClampNeg a2) → vp_in (σ2.1 2) 3002 ∧ ∀ σ3 : S9, σ3 = sA σ2 3 (upd (σ2.2.1 3) ((σ2.1 2)).toNatClampNeg a3) → ∀ σ4 : S9, σ4 = sF σ3 2 ((σ3.1 2) + (1 : Int32)) → Φ σ4
theorem dX11_word_0 : decode cX11_word 0 = .ok (.aload_n 0, 1) := by decide +kernel
theorem dX11_word_1 : decode cX11_word 1 = .ok (.getfield 13, 3) := by decide +kernel
theorem dX11_word_4 : decode cX11_word 4 = .ok (.aload_n 0, 1) := by decide +kernel
theorem dX11_word_5 : decode cX11_word 5 = .ok (.getfield 108, 3) := by decide +kernel
theorem dX11_word_8 : decode cX11_word 8 = .ok (.iload_n 1, 1) := by decide +kernel
theorem dX11_word_9 : decode cX11_word 9 = .ok (.iastore, 1) := by decide +kernel
theorem dX11_word_10 : decode cX11_word 10 = .ok (.aload_n 0, 1) := by decide +kernel
theorem dX11_word_11 : decode cX11_word 11 = .ok (.getfield 16, 3) := by decide +kernel
theorem dX11_word_14 : decode cX11_word 14 = .ok (.aload_n 0, 1) := by decide +kernel
theorem dX11_word_15 : decode cX11_word 15 = .ok (.getfield 108, 3) := by decide +kernel
theorem dX11_word_18 : decode cX11_word 18 = .ok (.iload_n 2, 1) := by decide +kernel
theorem dX11_word_19 : decode cX11_word 19 = .ok (.iastore, 1) := by decide +kernel
theorem dX11_word_20 : decode cX11_word 20 = .ok (.aload_n 0, 1) := by decide +kernel
theorem dX11_word_21 : decode cX11_word 21 = .ok (.getfield 19, 3) := by decide +kernel
theorem dX11_word_24 : decode cX11_word 24 = .ok (.aload_n 0, 1) := by decide +kernel
theorem dX11_word_25 : decode cX11_word 25 = .ok (.getfield 108, 3) := by decide +kernel
theorem dX11_word_28 : decode cX11_word 28 = .ok (.iload_n 3, 1) := by decide +kernel
theorem dX11_word_29 : decode cX11_word 29 = .ok (.iastore, 1) := by decide +kernel
theorem dX11_word_30 : decode cX11_word 30 = .ok (.aload_n 0, 1) := by decide +kernel
theorem dX11_word_31 : decode cX11_word 31 = .ok (.dup, 1) := by decide +kernel
theorem dX11_word_32 : decode cX11_word 32 = .ok (.getfield 108, 3) := by decide +kernel
theorem dX11_word_35 : decode cX11_word 35 = .ok (.iconst 1, 1) := by decide +kernel
theorem dX11_word_36 : decode cX11_word 36 = .ok (.iadd, 1) := by decide +kernel
theorem dX11_word_37 : decode cX11_word 37 = .ok (.putfield 108, 3) := by decide +kernel
theorem dX11_word_40 : decode cX11_word 40 = .ok (.return_, 1) := by decide +kernel
set_option maxRecDepth 20000 in
set_option maxHeartbeats 4000000 in
theorem c_X11_word {G : GG} (hJ : gJ 27 G) (l : Launch) (a1 : Int32) (a2 : Int32) (a3 : Int32) (σ : S9) (Φ : S9 → Prop) (hq : wp_X11_word a1 a2 a3 σ Φ) : CV mwl 27 G l yX11_word cX11_word 4 rm_X11_word [.ref (gAd G 0), .int a1, .int a2, .int a3] σ Φ := by
  refine CV.intro (by decide) (Nat.le_of_ble_eq_true rfl) hJ ?_
  intro p e s m args below meth c ls hE hml hr hlk hw hl
  have hl : lv_has ls 4 [(0, .ref (gAd G 0)), (1, .int a1), (2, .int a2), (3, .int a3)] := hl
  unfold wp_X11_word at hq
  refine lv_aload_n hE.1 hE.2.1 dX11_word_0 rfl (lv_at hl 0 rfl) ?_
  refine mgf_X11_13 hE hw dX11_word_1 ?_
  refine lv_aload_n hE.1 hE.2.1 dX11_word_4 rfl (lv_at hl 0 rfl) ?_
  refine mgf_X11_108 hE hw dX11_word_5 ?_
  refine lv_iload_n hE.1 hE.2.1 dX11_word_8 rfl (lv_at hl 1 rfl) ?_
  obtain ⟨hi1, hq⟩ := hq
  refine mas_2 hE hw hi1 dX11_word_9 (fun σ1 eσ1 H locs hw => ?_)
  have hq := hq σ1 eσ1
  refine lv_aload_n hE.1 hE.2.1 dX11_word_10 rfl (lv_at hl 0 rfl) ?_
  refine mgf_X11_16 hE hw dX11_word_11 ?_
  refine lv_aload_n hE.1 hE.2.1 dX11_word_14 rfl (lv_at hl 0 rfl) ?_
  refine mgf_X11_108 hE hw dX11_word_15 ?_
  refine lv_iload_n hE.1 hE.2.1 dX11_word_18 rfl (lv_at hl 2 rfl) ?_
  obtain ⟨hi2, hq⟩ := hq
  refine mas_3 hE hw hi2 dX11_word_19 (fun σ2 eσ2 H locs hw => ?_)
  have hq := hq σ2 eσ2
  refine lv_aload_n hE.1 hE.2.1 dX11_word_20 rfl (lv_at hl 0 rfl) ?_
  refine mgf_X11_19 hE hw dX11_word_21 ?_
  refine lv_aload_n hE.1 hE.2.1 dX11_word_24 rfl (lv_at hl 0 rfl) ?_
  refine mgf_X11_108 hE hw dX11_word_25 ?_
  refine lv_iload_n hE.1 hE.2.1 dX11_word_28 rfl (lv_at hl 3 rfl) ?_
  obtain ⟨hi3, hq⟩ := hq
  refine mas_4 hE hw hi3 dX11_word_29 (fun σ3 eσ3 H locs hw => ?_)
  have hq := hq σ3 eσ3
  refine lv_aload_n hE.1 hE.2.1 dX11_word_30 rfl (lv_at hl 0 rfl) ?_
  refine lv_dup hE.1 hE.2.1 dX11_word_31 rfl ?_
  refine mgf_X11_108 hE hw dX11_word_32 ?_
  refine lv_iconst (v := (1 : Int32)) hE.1 hE.2.1 dX11_word_35 (by decide) ?_
  refine lv_iadd hE.1 hE.2.1 dX11_word_36 ?_
  refine mpf_X11_108 hE hw dX11_word_37 (fun σ4 eσ4 H locs hw => ?_)
  have hq := hq σ4 eσ4
  exact rtV hE hr hlk hw hq dX11_word_40
/-! QueueBenchModel.isDigit(I)Z -/
abbrev rm_X11_isDigit : Room := { frames := 0, cells := 0, slots := 0, locals := 0 }
def wp_X11_isDigit (a0 : Int32) (σ : S9) (Φ : Int32 → S9 → Prop) : Prop := (a0 < (48 : Int32) → Φ (0 : Int32) σ) ∧ (¬ a0 < (48 : Int32) → ((57 : Int32) < a0 → Φ (0 : Int32) σ) ∧ (¬ (57 : Int32) < a0 → Φ (1 : Int32) σ))
theorem dX11_isDigit_0 : decode cX11_isDigit 0 = .ok (.iload_n 0, 1) := by decide +kernel
theorem dX11_isDigit_1 : decode cX11_isDigit 1 = .ok (.bipush 48, 2) := by decide +kernel
theorem dX11_isDigit_3 : decode cX11_isDigit 3 = .ok (.if_icmp .lt 13, 3) := by decide +kernel
theorem dX11_isDigit_6 : decode cX11_isDigit 6 = .ok (.iload_n 0, 1) := by decide +kernel
theorem dX11_isDigit_7 : decode cX11_isDigit 7 = .ok (.bipush 57, 2) := by decide +kernel
theorem dX11_isDigit_9 : decode cX11_isDigit 9 = .ok (.if_icmp .gt 7, 3) := by decide +kernel
theorem dX11_isDigit_12 : decode cX11_isDigit 12 = .ok (.iconst 1, 1) := by decide +kernel
theorem dX11_isDigit_13 : decode cX11_isDigit 13 = .ok (.goto 4, 3) := by decide +kernel
theorem dX11_isDigit_16 : decode cX11_isDigit 16 = .ok (.iconst 0, 1) := by decide +kernel
theorem dX11_isDigit_17 : decode cX11_isDigit 17 = .ok (.ireturn, 1) := by decide +kernel
set_option maxRecDepth 20000 in
set_option maxHeartbeats 4000000 in
theorem c_X11_isDigit {G : GG} (hJ : gJ 27 G) (l : Launch) (a0 : Int32) (σ : S9) (Φ : Int32 → S9 → Prop) (hq : wp_X11_isDigit a0 σ Φ) : CI mwl 27 G l yX11_isDigit cX11_isDigit 1 (some .boolean) rm_X11_isDigit [.int a0] σ Φ := by
  refine CI.intro (by decide) (Nat.le_of_ble_eq_true rfl) hJ ?_
  intro p e s m args below meth c ls hE hml hr hlk hw hl
  have hl : lv_has ls 1 [(0, .int a0)] := hl
  unfold wp_X11_isDigit at hq
  refine lv_iload_n hE.1 hE.2.1 dX11_isDigit_0 rfl (lv_at hl 0 rfl) ?_
  refine lv_bipush (v := (48 : Int32)) hE.1 hE.2.1 dX11_isDigit_1 (by decide) ?_
  refine lv_icmp_lt (tgt := 16) hE.1 hE.2.1 dX11_isDigit_3 (by decide) (fun c1 => ?_) (fun c1 => ?_)
  · have hq := hq.1 c1
    refine lv_iconst (v := (0 : Int32)) hE.1 hE.2.1 dX11_isDigit_16 (by decide) ?_
    exact rtZ hE hr hlk rfl hw hq dX11_isDigit_17
  · have hq := hq.2 c1
    refine lv_iload_n hE.1 hE.2.1 dX11_isDigit_6 rfl (lv_at hl 0 rfl) ?_
    refine lv_bipush (v := (57 : Int32)) hE.1 hE.2.1 dX11_isDigit_7 (by decide) ?_
    refine lv_icmp_gt (tgt := 16) hE.1 hE.2.1 dX11_isDigit_9 (by decide) (fun c2 => ?_) (fun c2 => ?_)
    · have hq := hq.1 c2
      refine lv_iconst (v := (0 : Int32)) hE.1 hE.2.1 dX11_isDigit_16 (by decide) ?_
      exact rtZ hE hr hlk rfl hw hq dX11_isDigit_17
    · have hq := hq.2 c2
      refine lv_iconst (v := (1 : Int32)) hE.1 hE.2.1 dX11_isDigit_12 (by decide) ?_
      refine lv_goto (tgt := 17) hE.1 hE.2.1 dX11_isDigit_13 (by decide) ?_
      exact rtZ hE hr hlk rfl hw hq dX11_isDigit_17
/-! QueueBenchModel.part()V -/
abbrev rm_X11_part : Room := { frames := 1, cells := 0, slots := 0, locals := 23 }
def wp_X11_part_b189 (K7 : Int32 → S9 → Prop) (Φ : S9 → Prop) (a1 : Int32) (a2 : Int32) (a3 : Int32) (σ : S9) : Prop := (a2 = (32 : Int32) → K7 a1 σ) ∧ (¬ a2 = (32 : Int32) → (a2 = (10 : Int32) → K7 a1 σ) ∧ (¬ a2 = (10 : Int32) → wp_X11_word ((100 : Int32) + a2) (0 : Int32) a3 σ (fun σ1 => K7 a1 σ1)))
def wp_X11_part_b164 (K7 : Int32 → S9 → Prop) (Φ : S9 → Prop) (a1 : Int32) (a2 : Int32) (a3 : Int32) (σ : S9) : Prop := (a2 < (65 : Int32) → wp_X11_part_b189 K7 Φ a1 a2 a3 σ) ∧ (¬ a2 < (65 : Int32) → ((90 : Int32) < a2 → wp_X11_part_b189 K7 Φ a1 a2 a3 σ) ∧ (¬ (90 : Int32) < a2 → wp_X11_word (4 : Int32) (a2 - (65 : Int32)) a3 σ (fun σ1 => K7 a1 σ1)))
def wp_X11_part_b116 (K7 : Int32 → S9 → Prop) (Φ : S9 → Prop) (a1 : Int32) (a3 : Int32) (a4 : Int64) (t0 : Int32) (σ : S9) : Prop := ((lg_cmp a4 (2147483647 : Int64)) ≤ 0 → wp_X11_word t0 ((a4).toInt32) a3 σ (fun σ1 => K7 a1 σ1)) ∧ (¬ (lg_cmp a4 (2147483647 : Int64)) ≤ 0 → wp_X11_word t0 (0 : Int32) a3 σ (fun σ2 => K7 a1 σ2))
def wp_X11_part_b101 (K7 : Int32 → S9 → Prop) (Φ : S9 → Prop) (a1 : Int32) (a3 : Int32) (a4 : Int64) (σ : S9) : Prop := ((lg_cmp a4 (2147483647 : Int64)) ≤ 0 → wp_X11_part_b116 K7 Φ a1 a3 a4 (1 : Int32) σ) ∧ (¬ (lg_cmp a4 (2147483647 : Int64)) ≤ 0 → wp_X11_part_b116 K7 Φ a1 a3 a4 (2 : Int32) σ)
def bd_X11_part_b41 (K7 : Int32 → S9 → Prop) (K41 : Int32 → Int32 → Int64 → S9 → Prop) (Φ : S9 → Prop) (a1 : Int32) (a3 : Int32) (a4 : Int64) (σ : S9) : Prop := ((σ.1 1) ≤ a1 → wp_X11_part_b101 K7 Φ a1 a3 a4 σ) ∧ (¬ (σ.1 1) ≤ a1 → vp_in a1 3000 ∧ wp_X11_isDigit (σ.2.1 0 (a1).toNatClampNeg) σ (fun r3 σ1 => (r3 = 0 → wp_X11_part_b101 K7 Φ a1 a3 a4 σ1) ∧ (¬ r3 = 0 → ((lg_cmp a4 (2147483647 : Int64)) ≤ 0 → vp_in a1 3000 ∧ ∀ x7 : Int64, x7 = ((((10 : Int64) * a4) + (((σ1.2.1 0 (a1).toNatClampNeg)).toInt64)) - (48 : Int64)) → ∀ x8 : Int32, x8 = a1 + 1 → K41 x8 a3 x7 σ1) ∧ (¬ (lg_cmp a4 (2147483647 : Int64)) ≤ 0 → ∀ x9 : Int32, x9 = a1 + 1 → K41 x9 a3 a4 σ1))))
def lp_X11_part_b41 (K7 : Int32 → S9 → Prop) (Φ : S9 → Prop) : Nat → Int32 → Int32 → Int64 → S9 → Prop
  | 0 => fun _ _ _ _ => False
  | n + 1 => bd_X11_part_b41 K7 (lp_X11_part_b41 K7 Φ n) Φ
def bd_X11_part_b7 (K7 : Int32 → S9 → Prop) (Φ : S9 → Prop) (a1 : Int32) (σ : S9) : Prop := ((σ.1 1) ≤ a1 → wp_X11_word (0 : Int32) (0 : Int32) (σ.1 1) σ (fun σ1 => Φ σ1)) ∧ (¬ (σ.1 1) ≤ a1 → vp_in a1 3000 ∧ ∀ x3 : Int32, x3 = (σ.2.1 0 (a1).toNatClampNeg) → ∀ x4 : Int32, x4 = a1 + 1 → wp_X11_isDigit x3 σ (fun r5 σ2 => (r5 = 0 → (x3 < (97 : Int32) → wp_X11_part_b164 K7 Φ x4 x3 a1 σ2) ∧ (¬ x3 < (97 : Int32) → ((122 : Int32) < x3 → wp_X11_part_b164 K7 Φ x4 x3 a1 σ2) ∧ (¬ (122 : Int32) < x3 → wp_X11_word (3 : Int32) (x3 - (97 : Int32)) a1 σ2 (fun σ3 => K7 x4 σ3)))) ∧ (¬ r5 = 0 → ∀ x9 : Int64, x9 = (((x3 - (48 : Int32))).toInt64) → ∃ n : Nat, lp_X11_part_b41 K7 Φ n x4 a1 x9 σ2)))
def lp_X11_part_b7  (Φ : S9 → Prop) : Nat → Int32 → S9 → Prop
  | 0 => fun _ _ => False
  | n + 1 => bd_X11_part_b7  (lp_X11_part_b7  Φ n) Φ
def wp_X11_part  (σ : S9) (Φ : S9 → Prop) : Prop := ∀ σ1 : S9, σ1 = sF σ 2 (0 : Int32) → ∀ x1 : Int32, x1 = (0 : Int32) → ∃ n : Nat, lp_X11_part_b7  Φ n x1 σ1
theorem dX11_part_0 : decode cX11_part 0 = .ok (.aload_n 0, 1) := by decide +kernel
theorem dX11_part_1 : decode cX11_part 1 = .ok (.iconst 0, 1) := by decide +kernel
theorem dX11_part_2 : decode cX11_part 2 = .ok (.putfield 108, 3) := by decide +kernel
theorem dX11_part_5 : decode cX11_part 5 = .ok (.iconst 0, 1) := by decide +kernel
theorem dX11_part_6 : decode cX11_part 6 = .ok (.istore_n 1, 1) := by decide +kernel
theorem dX11_part_7 : decode cX11_part 7 = .ok (.iload_n 1, 1) := by decide +kernel
theorem dX11_part_8 : decode cX11_part 8 = .ok (.aload_n 0, 1) := by decide +kernel
theorem dX11_part_9 : decode cX11_part 9 = .ok (.getfield 93, 3) := by decide +kernel
theorem dX11_part_12 : decode cX11_part 12 = .ok (.if_icmp .ge 202, 3) := by decide +kernel
theorem dX11_part_15 : decode cX11_part 15 = .ok (.aload_n 0, 1) := by decide +kernel
theorem dX11_part_16 : decode cX11_part 16 = .ok (.getfield 7, 3) := by decide +kernel
theorem dX11_part_19 : decode cX11_part 19 = .ok (.iload_n 1, 1) := by decide +kernel
theorem dX11_part_20 : decode cX11_part 20 = .ok (.iaload, 1) := by decide +kernel
theorem dX11_part_21 : decode cX11_part 21 = .ok (.istore_n 2, 1) := by decide +kernel
theorem dX11_part_22 : decode cX11_part 22 = .ok (.iload_n 1, 1) := by decide +kernel
theorem dX11_part_23 : decode cX11_part 23 = .ok (.istore_n 3, 1) := by decide +kernel
theorem dX11_part_24 : decode cX11_part 24 = .ok (.iinc 1 1, 3) := by decide +kernel
theorem dX11_part_27 : decode cX11_part 27 = .ok (.iload_n 2, 1) := by decide +kernel
theorem dX11_part_28 : decode cX11_part 28 = .ok (.invokestatic 111, 3) := by decide +kernel
theorem dX11_part_31 : decode cX11_part 31 = .ok (.ifCond .eq 108, 3) := by decide +kernel
theorem dX11_part_34 : decode cX11_part 34 = .ok (.iload_n 2, 1) := by decide +kernel
theorem dX11_part_35 : decode cX11_part 35 = .ok (.bipush 48, 2) := by decide +kernel
theorem dX11_part_37 : decode cX11_part 37 = .ok (.isub, 1) := by decide +kernel
theorem dX11_part_38 : decode cX11_part 38 = .ok (.i2l, 1) := by decide +kernel
theorem dX11_part_39 : decode cX11_part 39 = .ok (.lstore 4, 2) := by decide +kernel
theorem dX11_part_41 : decode cX11_part 41 = .ok (.iload_n 1, 1) := by decide +kernel
theorem dX11_part_42 : decode cX11_part 42 = .ok (.aload_n 0, 1) := by decide +kernel
theorem dX11_part_43 : decode cX11_part 43 = .ok (.getfield 93, 3) := by decide +kernel
theorem dX11_part_46 : decode cX11_part 46 = .ok (.if_icmp .ge 55, 3) := by decide +kernel
theorem dX11_part_49 : decode cX11_part 49 = .ok (.aload_n 0, 1) := by decide +kernel
theorem dX11_part_50 : decode cX11_part 50 = .ok (.getfield 7, 3) := by decide +kernel
theorem dX11_part_53 : decode cX11_part 53 = .ok (.iload_n 1, 1) := by decide +kernel
theorem dX11_part_54 : decode cX11_part 54 = .ok (.iaload, 1) := by decide +kernel
theorem dX11_part_55 : decode cX11_part 55 = .ok (.invokestatic 111, 3) := by decide +kernel
theorem dX11_part_58 : decode cX11_part 58 = .ok (.ifCond .eq 43, 3) := by decide +kernel
theorem dX11_part_61 : decode cX11_part 61 = .ok (.lload 4, 2) := by decide +kernel
theorem dX11_part_63 : decode cX11_part 63 = .ok (.ldc2_w 115, 3) := by decide +kernel
theorem dX11_part_66 : decode cX11_part 66 = .ok (.lcmp, 1) := by decide +kernel
theorem dX11_part_67 : decode cX11_part 67 = .ok (.ifCond .le 8, 3) := by decide +kernel
theorem dX11_part_70 : decode cX11_part 70 = .ok (.lload 4, 2) := by decide +kernel
theorem dX11_part_72 : decode cX11_part 72 = .ok (.goto 21, 3) := by decide +kernel
theorem dX11_part_75 : decode cX11_part 75 = .ok (.ldc2_w 117, 3) := by decide +kernel
theorem dX11_part_78 : decode cX11_part 78 = .ok (.lload 4, 2) := by decide +kernel
theorem dX11_part_80 : decode cX11_part 80 = .ok (.lmul, 1) := by decide +kernel
theorem dX11_part_81 : decode cX11_part 81 = .ok (.aload_n 0, 1) := by decide +kernel
theorem dX11_part_82 : decode cX11_part 82 = .ok (.getfield 7, 3) := by decide +kernel
theorem dX11_part_85 : decode cX11_part 85 = .ok (.iload_n 1, 1) := by decide +kernel
theorem dX11_part_86 : decode cX11_part 86 = .ok (.iaload, 1) := by decide +kernel
theorem dX11_part_87 : decode cX11_part 87 = .ok (.i2l, 1) := by decide +kernel
theorem dX11_part_88 : decode cX11_part 88 = .ok (.ladd, 1) := by decide +kernel
theorem dX11_part_89 : decode cX11_part 89 = .ok (.ldc2_w 119, 3) := by decide +kernel
theorem dX11_part_92 : decode cX11_part 92 = .ok (.lsub, 1) := by decide +kernel
theorem dX11_part_93 : decode cX11_part 93 = .ok (.lstore 4, 2) := by decide +kernel
theorem dX11_part_95 : decode cX11_part 95 = .ok (.iinc 1 1, 3) := by decide +kernel
theorem dX11_part_98 : decode cX11_part 98 = .ok (.goto (-57), 3) := by decide +kernel
theorem dX11_part_101 : decode cX11_part 101 = .ok (.aload_n 0, 1) := by decide +kernel
theorem dX11_part_102 : decode cX11_part 102 = .ok (.lload 4, 2) := by decide +kernel
theorem dX11_part_104 : decode cX11_part 104 = .ok (.ldc2_w 115, 3) := by decide +kernel
theorem dX11_part_107 : decode cX11_part 107 = .ok (.lcmp, 1) := by decide +kernel
theorem dX11_part_108 : decode cX11_part 108 = .ok (.ifCond .le 7, 3) := by decide +kernel
theorem dX11_part_111 : decode cX11_part 111 = .ok (.iconst 2, 1) := by decide +kernel
theorem dX11_part_112 : decode cX11_part 112 = .ok (.goto 4, 3) := by decide +kernel
theorem dX11_part_115 : decode cX11_part 115 = .ok (.iconst 1, 1) := by decide +kernel
theorem dX11_part_116 : decode cX11_part 116 = .ok (.lload 4, 2) := by decide +kernel
theorem dX11_part_118 : decode cX11_part 118 = .ok (.ldc2_w 115, 3) := by decide +kernel
theorem dX11_part_121 : decode cX11_part 121 = .ok (.lcmp, 1) := by decide +kernel
theorem dX11_part_122 : decode cX11_part 122 = .ok (.ifCond .le 7, 3) := by decide +kernel
theorem dX11_part_125 : decode cX11_part 125 = .ok (.iconst 0, 1) := by decide +kernel
theorem dX11_part_126 : decode cX11_part 126 = .ok (.goto 6, 3) := by decide +kernel
theorem dX11_part_129 : decode cX11_part 129 = .ok (.lload 4, 2) := by decide +kernel
theorem dX11_part_131 : decode cX11_part 131 = .ok (.l2i, 1) := by decide +kernel
theorem dX11_part_132 : decode cX11_part 132 = .ok (.iload_n 3, 1) := by decide +kernel
theorem dX11_part_133 : decode cX11_part 133 = .ok (.invokevirtual 121, 3) := by decide +kernel
theorem dX11_part_136 : decode cX11_part 136 = .ok (.goto 75, 3) := by decide +kernel
theorem dX11_part_139 : decode cX11_part 139 = .ok (.iload_n 2, 1) := by decide +kernel
theorem dX11_part_140 : decode cX11_part 140 = .ok (.bipush 97, 2) := by decide +kernel
theorem dX11_part_142 : decode cX11_part 142 = .ok (.if_icmp .lt 22, 3) := by decide +kernel
theorem dX11_part_145 : decode cX11_part 145 = .ok (.iload_n 2, 1) := by decide +kernel
theorem dX11_part_146 : decode cX11_part 146 = .ok (.bipush 122, 2) := by decide +kernel
theorem dX11_part_148 : decode cX11_part 148 = .ok (.if_icmp .gt 16, 3) := by decide +kernel
theorem dX11_part_151 : decode cX11_part 151 = .ok (.aload_n 0, 1) := by decide +kernel
theorem dX11_part_152 : decode cX11_part 152 = .ok (.iconst 3, 1) := by decide +kernel
theorem dX11_part_153 : decode cX11_part 153 = .ok (.iload_n 2, 1) := by decide +kernel
theorem dX11_part_154 : decode cX11_part 154 = .ok (.bipush 97, 2) := by decide +kernel
theorem dX11_part_156 : decode cX11_part 156 = .ok (.isub, 1) := by decide +kernel
theorem dX11_part_157 : decode cX11_part 157 = .ok (.iload_n 3, 1) := by decide +kernel
theorem dX11_part_158 : decode cX11_part 158 = .ok (.invokevirtual 121, 3) := by decide +kernel
theorem dX11_part_161 : decode cX11_part 161 = .ok (.goto 50, 3) := by decide +kernel
theorem dX11_part_164 : decode cX11_part 164 = .ok (.iload_n 2, 1) := by decide +kernel
theorem dX11_part_165 : decode cX11_part 165 = .ok (.bipush 65, 2) := by decide +kernel
theorem dX11_part_167 : decode cX11_part 167 = .ok (.if_icmp .lt 22, 3) := by decide +kernel
theorem dX11_part_170 : decode cX11_part 170 = .ok (.iload_n 2, 1) := by decide +kernel
theorem dX11_part_171 : decode cX11_part 171 = .ok (.bipush 90, 2) := by decide +kernel
theorem dX11_part_173 : decode cX11_part 173 = .ok (.if_icmp .gt 16, 3) := by decide +kernel
theorem dX11_part_176 : decode cX11_part 176 = .ok (.aload_n 0, 1) := by decide +kernel
theorem dX11_part_177 : decode cX11_part 177 = .ok (.iconst 4, 1) := by decide +kernel
theorem dX11_part_178 : decode cX11_part 178 = .ok (.iload_n 2, 1) := by decide +kernel
theorem dX11_part_179 : decode cX11_part 179 = .ok (.bipush 65, 2) := by decide +kernel
theorem dX11_part_181 : decode cX11_part 181 = .ok (.isub, 1) := by decide +kernel
theorem dX11_part_182 : decode cX11_part 182 = .ok (.iload_n 3, 1) := by decide +kernel
theorem dX11_part_183 : decode cX11_part 183 = .ok (.invokevirtual 121, 3) := by decide +kernel
theorem dX11_part_186 : decode cX11_part 186 = .ok (.goto 25, 3) := by decide +kernel
theorem dX11_part_189 : decode cX11_part 189 = .ok (.iload_n 2, 1) := by decide +kernel
theorem dX11_part_190 : decode cX11_part 190 = .ok (.bipush 32, 2) := by decide +kernel
theorem dX11_part_192 : decode cX11_part 192 = .ok (.if_icmp .eq 19, 3) := by decide +kernel
theorem dX11_part_195 : decode cX11_part 195 = .ok (.iload_n 2, 1) := by decide +kernel
theorem dX11_part_196 : decode cX11_part 196 = .ok (.bipush 10, 2) := by decide +kernel
theorem dX11_part_198 : decode cX11_part 198 = .ok (.if_icmp .eq 13, 3) := by decide +kernel
theorem dX11_part_201 : decode cX11_part 201 = .ok (.aload_n 0, 1) := by decide +kernel
theorem dX11_part_202 : decode cX11_part 202 = .ok (.bipush 100, 2) := by decide +kernel
theorem dX11_part_204 : decode cX11_part 204 = .ok (.iload_n 2, 1) := by decide +kernel
theorem dX11_part_205 : decode cX11_part 205 = .ok (.iadd, 1) := by decide +kernel
theorem dX11_part_206 : decode cX11_part 206 = .ok (.iconst 0, 1) := by decide +kernel
theorem dX11_part_207 : decode cX11_part 207 = .ok (.iload_n 3, 1) := by decide +kernel
theorem dX11_part_208 : decode cX11_part 208 = .ok (.invokevirtual 121, 3) := by decide +kernel
theorem dX11_part_211 : decode cX11_part 211 = .ok (.goto (-204), 3) := by decide +kernel
theorem dX11_part_214 : decode cX11_part 214 = .ok (.aload_n 0, 1) := by decide +kernel
theorem dX11_part_215 : decode cX11_part 215 = .ok (.iconst 0, 1) := by decide +kernel
theorem dX11_part_216 : decode cX11_part 216 = .ok (.iconst 0, 1) := by decide +kernel
theorem dX11_part_217 : decode cX11_part 217 = .ok (.aload_n 0, 1) := by decide +kernel
theorem dX11_part_218 : decode cX11_part 218 = .ok (.getfield 93, 3) := by decide +kernel
theorem dX11_part_221 : decode cX11_part 221 = .ok (.invokevirtual 121, 3) := by decide +kernel
theorem dX11_part_224 : decode cX11_part 224 = .ok (.return_, 1) := by decide +kernel
set_option maxRecDepth 20000 in
set_option maxHeartbeats 4000000 in
theorem tb_X11_part_b189 {p : Program} {l : Launch} {e : Env} {s : State} {m : MethodId} {args : Array Value} {below : List Frame} {meth : Method} {c : Code} {G : GG} {Φ : S9 → Prop} {K7 : Int32 → S9 → Prop} (hE : Ev 27 G p s m args c cX11_part RX11) (hml : c.maxLocals = 6) (hr : meth.sig.returnType = none) (hlk : meth.locks = false) (hK7 : ∀ (a1 : Int32) (σ : S9) (H : Heap) (locs : List Loc) (ls : Array Slot), K7 a1 σ → Pic mwl 27 G σ s.heap H locs → lv_has ls 6 [(0, .ref (gAd G 0)), (1, .int a1)] → W p l e rm_X11_part s m args below meth c H locs 0 0 (QV mwl 27 G below args s Φ) (F0 m 7 ls [])) {a1 : Int32} {a2 : Int32} {a3 : Int32} {σ : S9} {H : Heap} {locs : List Loc} {ls : Array Slot} (hq : wp_X11_part_b189 K7 Φ a1 a2 a3 σ) (hw : Pic mwl 27 G σ s.heap H locs) (hl : lv_has ls 6 [(0, .ref (gAd G 0)), (1, .int a1), (2, .int a2), (3, .int a3)]) : W p l e rm_X11_part s m args below meth c H locs 0 0 (QV mwl 27 G below args s Φ) (F0 m 189 ls []) := by
  unfold wp_X11_part_b189 at hq
  refine lv_iload_n hE.1 hE.2.1 dX11_part_189 rfl (lv_at hl 2 rfl) ?_
  refine lv_bipush (v := (32 : Int32)) hE.1 hE.2.1 dX11_part_190 (by decide) ?_
  refine lv_icmp_eq (tgt := 211) hE.1 hE.2.1 dX11_part_192 (by decide) (fun c1 => ?_) (fun c1 => ?_)
  · have hq := hq.1 c1
    refine lv_goto (tgt := 7) hE.1 hE.2.1 dX11_part_211 (by decide) ?_
    exact hK7 _ _ _ _ _ hq hw (lv_sub hl [0, 1] rfl)
  · have hq := hq.2 c1
    refine lv_iload_n hE.1 hE.2.1 dX11_part_195 rfl (lv_at hl 2 rfl) ?_
    refine lv_bipush (v := (10 : Int32)) hE.1 hE.2.1 dX11_part_196 (by decide) ?_
    refine lv_icmp_eq (tgt := 211) hE.1 hE.2.1 dX11_part_198 (by decide) (fun c2 => ?_) (fun c2 => ?_)
    · have hq := hq.1 c2
      refine lv_goto (tgt := 7) hE.1 hE.2.1 dX11_part_211 (by decide) ?_
      exact hK7 _ _ _ _ _ hq hw (lv_sub hl [0, 1] rfl)
    · have hq := hq.2 c2
      refine lv_aload_n hE.1 hE.2.1 dX11_part_201 rfl (lv_at hl 0 rfl) ?_
      refine lv_bipush (v := (100 : Int32)) hE.1 hE.2.1 dX11_part_202 (by decide) ?_
      refine lv_iload_n hE.1 hE.2.1 dX11_part_204 rfl (lv_at hl 2 rfl) ?_
      refine lv_iadd hE.1 hE.2.1 dX11_part_205 ?_
      refine lv_iconst (v := (0 : Int32)) hE.1 hE.2.1 dX11_part_206 (by decide) ?_
      refine lv_iload_n hE.1 hE.2.1 dX11_part_207 rfl (lv_at hl 3 rfl) ?_
      refine clVv (rest := []) (As := [.int ((100 : Int32) + a2), .int (0 : Int32), .int a3]) hE hml hl.1 hw (c_X11_word hE.2.2.2.2.2 l _ _ _ _ _ hq) mu19 mu20 mu21 mu22 mu3 rfl (k := 3) (by decide +kernel) (by decide) (ci := 11) rfl (q0 := 0) rfl rfl rfl (Nat.le_of_ble_eq_true rfl) dX11_part_208 (by decide) (fun σ1 hq H locs hw => ?_)
      refine lv_goto (tgt := 7) hE.1 hE.2.1 dX11_part_211 (by decide) ?_
      exact hK7 _ _ _ _ _ hq hw (lv_sub hl [0, 1] rfl)
set_option maxRecDepth 20000 in
set_option maxHeartbeats 4000000 in
theorem tb_X11_part_b164 {p : Program} {l : Launch} {e : Env} {s : State} {m : MethodId} {args : Array Value} {below : List Frame} {meth : Method} {c : Code} {G : GG} {Φ : S9 → Prop} {K7 : Int32 → S9 → Prop} (hE : Ev 27 G p s m args c cX11_part RX11) (hml : c.maxLocals = 6) (hr : meth.sig.returnType = none) (hlk : meth.locks = false) (hK7 : ∀ (a1 : Int32) (σ : S9) (H : Heap) (locs : List Loc) (ls : Array Slot), K7 a1 σ → Pic mwl 27 G σ s.heap H locs → lv_has ls 6 [(0, .ref (gAd G 0)), (1, .int a1)] → W p l e rm_X11_part s m args below meth c H locs 0 0 (QV mwl 27 G below args s Φ) (F0 m 7 ls [])) {a1 : Int32} {a2 : Int32} {a3 : Int32} {σ : S9} {H : Heap} {locs : List Loc} {ls : Array Slot} (hq : wp_X11_part_b164 K7 Φ a1 a2 a3 σ) (hw : Pic mwl 27 G σ s.heap H locs) (hl : lv_has ls 6 [(0, .ref (gAd G 0)), (1, .int a1), (2, .int a2), (3, .int a3)]) : W p l e rm_X11_part s m args below meth c H locs 0 0 (QV mwl 27 G below args s Φ) (F0 m 164 ls []) := by
  unfold wp_X11_part_b164 at hq
  refine lv_iload_n hE.1 hE.2.1 dX11_part_164 rfl (lv_at hl 2 rfl) ?_
  refine lv_bipush (v := (65 : Int32)) hE.1 hE.2.1 dX11_part_165 (by decide) ?_
  refine lv_icmp_lt (tgt := 189) hE.1 hE.2.1 dX11_part_167 (by decide) (fun c1 => ?_) (fun c1 => ?_)
  · have hq := hq.1 c1
    exact tb_X11_part_b189 hE hml hr hlk hK7 hq hw (lv_sub hl [0, 1, 2, 3] rfl)
  · have hq := hq.2 c1
    refine lv_iload_n hE.1 hE.2.1 dX11_part_170 rfl (lv_at hl 2 rfl) ?_
    refine lv_bipush (v := (90 : Int32)) hE.1 hE.2.1 dX11_part_171 (by decide) ?_
    refine lv_icmp_gt (tgt := 189) hE.1 hE.2.1 dX11_part_173 (by decide) (fun c2 => ?_) (fun c2 => ?_)
    · have hq := hq.1 c2
      exact tb_X11_part_b189 hE hml hr hlk hK7 hq hw (lv_sub hl [0, 1, 2, 3] rfl)
    · have hq := hq.2 c2
      refine lv_aload_n hE.1 hE.2.1 dX11_part_176 rfl (lv_at hl 0 rfl) ?_
      refine lv_iconst (v := (4 : Int32)) hE.1 hE.2.1 dX11_part_177 (by decide) ?_
      refine lv_iload_n hE.1 hE.2.1 dX11_part_178 rfl (lv_at hl 2 rfl) ?_
      refine lv_bipush (v := (65 : Int32)) hE.1 hE.2.1 dX11_part_179 (by decide) ?_
      refine lv_isub hE.1 hE.2.1 dX11_part_181 ?_
      refine lv_iload_n hE.1 hE.2.1 dX11_part_182 rfl (lv_at hl 3 rfl) ?_
      refine clVv (rest := []) (As := [.int (4 : Int32), .int (a2 - (65 : Int32)), .int a3]) hE hml hl.1 hw (c_X11_word hE.2.2.2.2.2 l _ _ _ _ _ hq) mu19 mu20 mu21 mu22 mu3 rfl (k := 3) (by decide +kernel) (by decide) (ci := 11) rfl (q0 := 0) rfl rfl rfl (Nat.le_of_ble_eq_true rfl) dX11_part_183 (by decide) (fun σ1 hq H locs hw => ?_)
      refine lv_goto (tgt := 211) hE.1 hE.2.1 dX11_part_186 (by decide) ?_
      refine lv_goto (tgt := 7) hE.1 hE.2.1 dX11_part_211 (by decide) ?_
      exact hK7 _ _ _ _ _ hq hw (lv_sub hl [0, 1] rfl)
set_option maxRecDepth 20000 in
set_option maxHeartbeats 4000000 in
theorem tb_X11_part_b116 {p : Program} {l : Launch} {e : Env} {s : State} {m : MethodId} {args : Array Value} {below : List Frame} {meth : Method} {c : Code} {G : GG} {Φ : S9 → Prop} {K7 : Int32 → S9 → Prop} (hE : Ev 27 G p s m args c cX11_part RX11) (hml : c.maxLocals = 6) (hr : meth.sig.returnType = none) (hlk : meth.locks = false) (hK7 : ∀ (a1 : Int32) (σ : S9) (H : Heap) (locs : List Loc) (ls : Array Slot), K7 a1 σ → Pic mwl 27 G σ s.heap H locs → lv_has ls 6 [(0, .ref (gAd G 0)), (1, .int a1)] → W p l e rm_X11_part s m args below meth c H locs 0 0 (QV mwl 27 G below args s Φ) (F0 m 7 ls [])) {a1 : Int32} {a3 : Int32} {a4 : Int64} {t0 : Int32} {σ : S9} {H : Heap} {locs : List Loc} {ls : Array Slot} (hq : wp_X11_part_b116 K7 Φ a1 a3 a4 t0 σ) (hw : Pic mwl 27 G σ s.heap H locs) (hl : lv_has ls 6 [(0, .ref (gAd G 0)), (1, .int a1), (3, .int a3), (4, .long a4)]) : W p l e rm_X11_part s m args below meth c H locs 0 0 (QV mwl 27 G below args s Φ) (F0 m 116 ls [.int t0, .ref (gAd G 0)]) := by
  unfold wp_X11_part_b116 at hq
  refine lv_lload hE.1 hE.2.1 dX11_part_116 (lv_at hl 3 rfl) ?_
  refine lv_ldc2 (v := 2147483647) hE.1 hE.2.1 hE.2.2.1 (hE.2.2.2.1 _ mu26) dX11_part_118 ?_
  refine W.lcmp hE.1 hE.2.1 dX11_part_121 ?_
  refine lv_if_le (tgt := 129) hE.1 hE.2.1 dX11_part_122 (by decide) (fun c1 => ?_) (fun c1 => ?_)
  · have hq := hq.1 c1
    refine lv_lload hE.1 hE.2.1 dX11_part_129 (lv_at hl 3 rfl) ?_
    refine lv_l2i (v := (a4).toInt32) hE.1 hE.2.1 dX11_part_131 rfl ?_
    refine lv_iload_n hE.1 hE.2.1 dX11_part_132 rfl (lv_at hl 2 rfl) ?_
    refine clVv (rest := []) (As := [.int t0, .int ((a4).toInt32), .int a3]) hE hml hl.1 hw (c_X11_word hE.2.2.2.2.2 l _ _ _ _ _ hq) mu19 mu20 mu21 mu22 mu3 rfl (k := 3) (by decide +kernel) (by decide) (ci := 11) rfl (q0 := 0) rfl rfl rfl (Nat.le_of_ble_eq_true rfl) dX11_part_133 (by decide) (fun σ1 hq H locs hw => ?_)
    refine lv_goto (tgt := 211) hE.1 hE.2.1 dX11_part_136 (by decide) ?_
    refine lv_goto (tgt := 7) hE.1 hE.2.1 dX11_part_211 (by decide) ?_
    exact hK7 _ _ _ _ _ hq hw (lv_sub hl [0, 1] rfl)
  · have hq := hq.2 c1
    refine lv_iconst (v := (0 : Int32)) hE.1 hE.2.1 dX11_part_125 (by decide) ?_
    refine lv_goto (tgt := 132) hE.1 hE.2.1 dX11_part_126 (by decide) ?_
    refine lv_iload_n hE.1 hE.2.1 dX11_part_132 rfl (lv_at hl 2 rfl) ?_
    refine clVv (rest := []) (As := [.int t0, .int (0 : Int32), .int a3]) hE hml hl.1 hw (c_X11_word hE.2.2.2.2.2 l _ _ _ _ _ hq) mu19 mu20 mu21 mu22 mu3 rfl (k := 3) (by decide +kernel) (by decide) (ci := 11) rfl (q0 := 0) rfl rfl rfl (Nat.le_of_ble_eq_true rfl) dX11_part_133 (by decide) (fun σ2 hq H locs hw => ?_)
    refine lv_goto (tgt := 211) hE.1 hE.2.1 dX11_part_136 (by decide) ?_
    refine lv_goto (tgt := 7) hE.1 hE.2.1 dX11_part_211 (by decide) ?_
    exact hK7 _ _ _ _ _ hq hw (lv_sub hl [0, 1] rfl)
set_option maxRecDepth 20000 in
set_option maxHeartbeats 4000000 in
theorem tb_X11_part_b101 {p : Program} {l : Launch} {e : Env} {s : State} {m : MethodId} {args : Array Value} {below : List Frame} {meth : Method} {c : Code} {G : GG} {Φ : S9 → Prop} {K7 : Int32 → S9 → Prop} (hE : Ev 27 G p s m args c cX11_part RX11) (hml : c.maxLocals = 6) (hr : meth.sig.returnType = none) (hlk : meth.locks = false) (hK7 : ∀ (a1 : Int32) (σ : S9) (H : Heap) (locs : List Loc) (ls : Array Slot), K7 a1 σ → Pic mwl 27 G σ s.heap H locs → lv_has ls 6 [(0, .ref (gAd G 0)), (1, .int a1)] → W p l e rm_X11_part s m args below meth c H locs 0 0 (QV mwl 27 G below args s Φ) (F0 m 7 ls [])) {a1 : Int32} {a3 : Int32} {a4 : Int64} {σ : S9} {H : Heap} {locs : List Loc} {ls : Array Slot} (hq : wp_X11_part_b101 K7 Φ a1 a3 a4 σ) (hw : Pic mwl 27 G σ s.heap H locs) (hl : lv_has ls 6 [(0, .ref (gAd G 0)), (1, .int a1), (3, .int a3), (4, .long a4)]) : W p l e rm_X11_part s m args below meth c H locs 0 0 (QV mwl 27 G below args s Φ) (F0 m 101 ls []) := by
  unfold wp_X11_part_b101 at hq
  refine lv_aload_n hE.1 hE.2.1 dX11_part_101 rfl (lv_at hl 0 rfl) ?_
  refine lv_lload hE.1 hE.2.1 dX11_part_102 (lv_at hl 3 rfl) ?_
  refine lv_ldc2 (v := 2147483647) hE.1 hE.2.1 hE.2.2.1 (hE.2.2.2.1 _ mu26) dX11_part_104 ?_
  refine W.lcmp hE.1 hE.2.1 dX11_part_107 ?_
  refine lv_if_le (tgt := 115) hE.1 hE.2.1 dX11_part_108 (by decide) (fun c1 => ?_) (fun c1 => ?_)
  · have hq := hq.1 c1
    refine lv_iconst (v := (1 : Int32)) hE.1 hE.2.1 dX11_part_115 (by decide) ?_
    exact tb_X11_part_b116 hE hml hr hlk hK7 hq hw (lv_sub hl [0, 1, 2, 3] rfl)
  · have hq := hq.2 c1
    refine lv_iconst (v := (2 : Int32)) hE.1 hE.2.1 dX11_part_111 (by decide) ?_
    refine lv_goto (tgt := 116) hE.1 hE.2.1 dX11_part_112 (by decide) ?_
    exact tb_X11_part_b116 hE hml hr hlk hK7 hq hw (lv_sub hl [0, 1, 2, 3] rfl)
set_option maxRecDepth 20000 in
set_option maxHeartbeats 4000000 in
theorem tb_X11_part_b41 {p : Program} {l : Launch} {e : Env} {s : State} {m : MethodId} {args : Array Value} {below : List Frame} {meth : Method} {c : Code} {G : GG} {Φ : S9 → Prop} {K7 : Int32 → S9 → Prop} {K41 : Int32 → Int32 → Int64 → S9 → Prop} (hE : Ev 27 G p s m args c cX11_part RX11) (hml : c.maxLocals = 6) (hr : meth.sig.returnType = none) (hlk : meth.locks = false) (hK7 : ∀ (a1 : Int32) (σ : S9) (H : Heap) (locs : List Loc) (ls : Array Slot), K7 a1 σ → Pic mwl 27 G σ s.heap H locs → lv_has ls 6 [(0, .ref (gAd G 0)), (1, .int a1)] → W p l e rm_X11_part s m args below meth c H locs 0 0 (QV mwl 27 G below args s Φ) (F0 m 7 ls [])) (hK41 : ∀ (a1 : Int32) (a3 : Int32) (a4 : Int64) (σ : S9) (H : Heap) (locs : List Loc) (ls : Array Slot), K41 a1 a3 a4 σ → Pic mwl 27 G σ s.heap H locs → lv_has ls 6 [(0, .ref (gAd G 0)), (1, .int a1), (3, .int a3), (4, .long a4)] → W p l e rm_X11_part s m args below meth c H locs 0 0 (QV mwl 27 G below args s Φ) (F0 m 41 ls [])) {a1 : Int32} {a3 : Int32} {a4 : Int64} {σ : S9} {H : Heap} {locs : List Loc} {ls : Array Slot} (hq : bd_X11_part_b41 K7 K41 Φ a1 a3 a4 σ) (hw : Pic mwl 27 G σ s.heap H locs) (hl : lv_has ls 6 [(0, .ref (gAd G 0)), (1, .int a1), (3, .int a3), (4, .long a4)]) : W p l e rm_X11_part s m args below meth c H locs 0 0 (QV mwl 27 G below args s Φ) (F0 m 41 ls []) := by
  unfold bd_X11_part_b41 at hq
  refine lv_iload_n hE.1 hE.2.1 dX11_part_41 rfl (lv_at hl 1 rfl) ?_
  refine lv_aload_n hE.1 hE.2.1 dX11_part_42 rfl (lv_at hl 0 rfl) ?_
  refine mgf_X11_93 hE hw dX11_part_43 ?_
  refine lv_icmp_ge (tgt := 101) hE.1 hE.2.1 dX11_part_46 (by decide) (fun c1 => ?_) (fun c1 => ?_)
  · have hq := hq.1 c1
    exact tb_X11_part_b101 hE hml hr hlk hK7 hq hw (lv_sub hl [0, 1, 2, 3] rfl)
  · have hq := hq.2 c1
    refine lv_aload_n hE.1 hE.2.1 dX11_part_49 rfl (lv_at hl 0 rfl) ?_
    refine mgf_X11_7 hE hw dX11_part_50 ?_
    refine lv_iload_n hE.1 hE.2.1 dX11_part_53 rfl (lv_at hl 1 rfl) ?_
    obtain ⟨hi2, hq⟩ := hq
    refine mal_1 hE hw hi2 dX11_part_54 ?_
    refine clSi (rest := []) (As := [.int (σ.2.1 0 (a1).toNatClampNeg)]) hE hml hl.1 hw (c_X11_isDigit hE.2.2.2.2.2 l _ _ _ hq) mu23 mu24 mu25 mu3 (k := 1) (by decide +kernel) (by decide) rfl rfl (Nat.le_of_ble_eq_true rfl) dX11_part_55 (by decide) (fun r3 σ1 hq H locs hw => ?_)
    refine lv_if_eq (tgt := 101) hE.1 hE.2.1 dX11_part_58 (by decide) (fun c4 => ?_) (fun c4 => ?_)
    · have hq := hq.1 c4
      exact tb_X11_part_b101 hE hml hr hlk hK7 hq hw (lv_sub hl [0, 1, 2, 3] rfl)
    · have hq := hq.2 c4
      refine lv_lload hE.1 hE.2.1 dX11_part_61 (lv_at hl 3 rfl) ?_
      refine lv_ldc2 (v := 2147483647) hE.1 hE.2.1 hE.2.2.1 (hE.2.2.2.1 _ mu26) dX11_part_63 ?_
      refine W.lcmp hE.1 hE.2.1 dX11_part_66 ?_
      refine lv_if_le (tgt := 75) hE.1 hE.2.1 dX11_part_67 (by decide) (fun c5 => ?_) (fun c5 => ?_)
      · have hq := hq.1 c5
        refine lv_ldc2 (v := 10) hE.1 hE.2.1 hE.2.2.1 (hE.2.2.2.1 _ mu27) dX11_part_75 ?_
        refine lv_lload hE.1 hE.2.1 dX11_part_78 (lv_at hl 3 rfl) ?_
        refine lv_lmul hE.1 hE.2.1 dX11_part_80 ?_
        refine lv_aload_n hE.1 hE.2.1 dX11_part_81 rfl (lv_at hl 0 rfl) ?_
        refine mgf_X11_7 hE hw dX11_part_82 ?_
        refine lv_iload_n hE.1 hE.2.1 dX11_part_85 rfl (lv_at hl 1 rfl) ?_
        obtain ⟨hi6, hq⟩ := hq
        refine mal_1 hE hw hi6 dX11_part_86 ?_
        refine lv_i2l (v := ((σ1.2.1 0 (a1).toNatClampNeg)).toInt64) hE.1 hE.2.1 dX11_part_87 rfl ?_
        refine lv_ladd hE.1 hE.2.1 dX11_part_88 ?_
        refine lv_ldc2 (v := 48) hE.1 hE.2.1 hE.2.2.1 (hE.2.2.2.1 _ mu28) dX11_part_89 ?_
        refine lv_lsub hE.1 hE.2.1 dX11_part_92 ?_
        refine lv_topl (fun x7 ex7 => ?_)
        have hq := hq x7 ex7
        refine lv_lstore (lv' := [(4, .long x7), (0, .ref (gAd G 0)), (1, .int a1), (3, .int a3)]) hE.1 hE.2.1 dX11_part_93 hl (by decide) rfl (fun ls hl => ?_)
        obtain ⟨x8, ex8⟩ : ∃ y : Int32, y = a1 + 1 := ⟨_, rfl⟩
        have hq := hq x8 ex8
        refine lv_iinc (v := x8) (lv' := [(1, .int x8), (4, .long x7), (0, .ref (gAd G 0)), (3, .int a3)]) hE.1 hE.2.1 dX11_part_95 hl (k := 2) rfl (by rw [ex8]; rfl) (by decide) rfl (fun ls hl => ?_)
        refine lv_goto (tgt := 41) hE.1 hE.2.1 dX11_part_98 (by decide) ?_
        exact hK41 _ _ _ _ _ _ _ hq hw (lv_sub hl [2, 0, 3, 1] rfl)
      · have hq := hq.2 c5
        refine lv_lload hE.1 hE.2.1 dX11_part_70 (lv_at hl 3 rfl) ?_
        refine lv_goto (tgt := 93) hE.1 hE.2.1 dX11_part_72 (by decide) ?_
        refine lv_lstore (lv' := [(4, .long a4), (0, .ref (gAd G 0)), (1, .int a1), (3, .int a3)]) hE.1 hE.2.1 dX11_part_93 hl (by decide) rfl (fun ls hl => ?_)
        obtain ⟨x9, ex9⟩ : ∃ y : Int32, y = a1 + 1 := ⟨_, rfl⟩
        have hq := hq x9 ex9
        refine lv_iinc (v := x9) (lv' := [(1, .int x9), (4, .long a4), (0, .ref (gAd G 0)), (3, .int a3)]) hE.1 hE.2.1 dX11_part_95 hl (k := 2) rfl (by rw [ex9]; rfl) (by decide) rfl (fun ls hl => ?_)
        refine lv_goto (tgt := 41) hE.1 hE.2.1 dX11_part_98 (by decide) ?_
        exact hK41 _ _ _ _ _ _ _ hq hw (lv_sub hl [2, 0, 3, 1] rfl)
theorem tl_X11_part_b41 {p : Program} {l : Launch} {e : Env} {s : State} {m : MethodId} {args : Array Value} {below : List Frame} {meth : Method} {c : Code} {G : GG} {Φ : S9 → Prop} {K7 : Int32 → S9 → Prop} (hE : Ev 27 G p s m args c cX11_part RX11) (hml : c.maxLocals = 6) (hr : meth.sig.returnType = none) (hlk : meth.locks = false) (hK7 : ∀ (a1 : Int32) (σ : S9) (H : Heap) (locs : List Loc) (ls : Array Slot), K7 a1 σ → Pic mwl 27 G σ s.heap H locs → lv_has ls 6 [(0, .ref (gAd G 0)), (1, .int a1)] → W p l e rm_X11_part s m args below meth c H locs 0 0 (QV mwl 27 G below args s Φ) (F0 m 7 ls [])) : ∀ (n : Nat) (a1 : Int32) (a3 : Int32) (a4 : Int64) (σ : S9) (H : Heap) (locs : List Loc) (ls : Array Slot), lp_X11_part_b41 K7 Φ n a1 a3 a4 σ → Pic mwl 27 G σ s.heap H locs → lv_has ls 6 [(0, .ref (gAd G 0)), (1, .int a1), (3, .int a3), (4, .long a4)] → W p l e rm_X11_part s m args below meth c H locs 0 0 (QV mwl 27 G below args s Φ) (F0 m 41 ls []) := by
  intro n
  induction n with
  | zero => intro _ _ _ _ _ _ _ hq; exact hq.elim
  | succ n ih => intro _ _ _ _ _ _ _ hq hw hl; exact tb_X11_part_b41 hE hml hr hlk hK7 ih hq hw hl
set_option maxRecDepth 20000 in
set_option maxHeartbeats 4000000 in
theorem tb_X11_part_b7 {p : Program} {l : Launch} {e : Env} {s : State} {m : MethodId} {args : Array Value} {below : List Frame} {meth : Method} {c : Code} {G : GG} {Φ : S9 → Prop} {K7 : Int32 → S9 → Prop} (hE : Ev 27 G p s m args c cX11_part RX11) (hml : c.maxLocals = 6) (hr : meth.sig.returnType = none) (hlk : meth.locks = false) (hK7 : ∀ (a1 : Int32) (σ : S9) (H : Heap) (locs : List Loc) (ls : Array Slot), K7 a1 σ → Pic mwl 27 G σ s.heap H locs → lv_has ls 6 [(0, .ref (gAd G 0)), (1, .int a1)] → W p l e rm_X11_part s m args below meth c H locs 0 0 (QV mwl 27 G below args s Φ) (F0 m 7 ls [])) {a1 : Int32} {σ : S9} {H : Heap} {locs : List Loc} {ls : Array Slot} (hq : bd_X11_part_b7 K7 Φ a1 σ) (hw : Pic mwl 27 G σ s.heap H locs) (hl : lv_has ls 6 [(0, .ref (gAd G 0)), (1, .int a1)]) : W p l e rm_X11_part s m args below meth c H locs 0 0 (QV mwl 27 G below args s Φ) (F0 m 7 ls []) := by
  unfold bd_X11_part_b7 at hq
  refine lv_iload_n hE.1 hE.2.1 dX11_part_7 rfl (lv_at hl 1 rfl) ?_
  refine lv_aload_n hE.1 hE.2.1 dX11_part_8 rfl (lv_at hl 0 rfl) ?_
  refine mgf_X11_93 hE hw dX11_part_9 ?_
  refine lv_icmp_ge (tgt := 214) hE.1 hE.2.1 dX11_part_12 (by decide) (fun c1 => ?_) (fun c1 => ?_)
  · have hq := hq.1 c1
    refine lv_aload_n hE.1 hE.2.1 dX11_part_214 rfl (lv_at hl 0 rfl) ?_
    refine lv_iconst (v := (0 : Int32)) hE.1 hE.2.1 dX11_part_215 (by decide) ?_
    refine lv_iconst (v := (0 : Int32)) hE.1 hE.2.1 dX11_part_216 (by decide) ?_
    refine lv_aload_n hE.1 hE.2.1 dX11_part_217 rfl (lv_at hl 0 rfl) ?_
    refine mgf_X11_93 hE hw dX11_part_218 ?_
    refine clVv (rest := []) (As := [.int (0 : Int32), .int (0 : Int32), .int (σ.1 1)]) hE hml hl.1 hw (c_X11_word hE.2.2.2.2.2 l _ _ _ _ _ hq) mu19 mu20 mu21 mu22 mu3 rfl (k := 3) (by decide +kernel) (by decide) (ci := 11) rfl (q0 := 0) rfl rfl rfl (Nat.le_of_ble_eq_true rfl) dX11_part_221 (by decide) (fun σ1 hq H locs hw => ?_)
    exact rtV hE hr hlk hw hq dX11_part_224
  · have hq := hq.2 c1
    refine lv_aload_n hE.1 hE.2.1 dX11_part_15 rfl (lv_at hl 0 rfl) ?_
    refine mgf_X11_7 hE hw dX11_part_16 ?_
    refine lv_iload_n hE.1 hE.2.1 dX11_part_19 rfl (lv_at hl 1 rfl) ?_
    obtain ⟨hi2, hq⟩ := hq
    refine mal_1 hE hw hi2 dX11_part_20 ?_
    refine lv_topi (fun x3 ex3 => ?_)
    have hq := hq x3 ex3
    refine lv_istore_n (lv' := [(2, .int x3), (0, .ref (gAd G 0)), (1, .int a1)]) hE.1 hE.2.1 dX11_part_21 rfl hl (by decide) rfl (fun ls hl => ?_)
    refine lv_iload_n hE.1 hE.2.1 dX11_part_22 rfl (lv_at hl 2 rfl) ?_
    refine lv_istore_n (lv' := [(3, .int a1), (2, .int x3), (0, .ref (gAd G 0)), (1, .int a1)]) hE.1 hE.2.1 dX11_part_23 rfl hl (by decide) rfl (fun ls hl => ?_)
    obtain ⟨x4, ex4⟩ : ∃ y : Int32, y = a1 + 1 := ⟨_, rfl⟩
    have hq := hq x4 ex4
    refine lv_iinc (v := x4) (lv' := [(1, .int x4), (3, .int a1), (2, .int x3), (0, .ref (gAd G 0))]) hE.1 hE.2.1 dX11_part_24 hl (k := 3) rfl (by rw [ex4]; rfl) (by decide) rfl (fun ls hl => ?_)
    refine lv_iload_n hE.1 hE.2.1 dX11_part_27 rfl (lv_at hl 2 rfl) ?_
    refine clSi (rest := []) (As := [.int x3]) hE hml hl.1 hw (c_X11_isDigit hE.2.2.2.2.2 l _ _ _ hq) mu23 mu24 mu25 mu3 (k := 1) (by decide +kernel) (by decide) rfl rfl (Nat.le_of_ble_eq_true rfl) dX11_part_28 (by decide) (fun r5 σ2 hq H locs hw => ?_)
    refine lv_if_eq (tgt := 139) hE.1 hE.2.1 dX11_part_31 (by decide) (fun c6 => ?_) (fun c6 => ?_)
    · have hq := hq.1 c6
      refine lv_iload_n hE.1 hE.2.1 dX11_part_139 rfl (lv_at hl 2 rfl) ?_
      refine lv_bipush (v := (97 : Int32)) hE.1 hE.2.1 dX11_part_140 (by decide) ?_
      refine lv_icmp_lt (tgt := 164) hE.1 hE.2.1 dX11_part_142 (by decide) (fun c7 => ?_) (fun c7 => ?_)
      · have hq := hq.1 c7
        exact tb_X11_part_b164 hE hml hr hlk hK7 hq hw (lv_sub hl [3, 0, 2, 1] rfl)
      · have hq := hq.2 c7
        refine lv_iload_n hE.1 hE.2.1 dX11_part_145 rfl (lv_at hl 2 rfl) ?_
        refine lv_bipush (v := (122 : Int32)) hE.1 hE.2.1 dX11_part_146 (by decide) ?_
        refine lv_icmp_gt (tgt := 164) hE.1 hE.2.1 dX11_part_148 (by decide) (fun c8 => ?_) (fun c8 => ?_)
        · have hq := hq.1 c8
          exact tb_X11_part_b164 hE hml hr hlk hK7 hq hw (lv_sub hl [3, 0, 2, 1] rfl)
        · have hq := hq.2 c8
          refine lv_aload_n hE.1 hE.2.1 dX11_part_151 rfl (lv_at hl 3 rfl) ?_
          refine lv_iconst (v := (3 : Int32)) hE.1 hE.2.1 dX11_part_152 (by decide) ?_
          refine lv_iload_n hE.1 hE.2.1 dX11_part_153 rfl (lv_at hl 2 rfl) ?_
          refine lv_bipush (v := (97 : Int32)) hE.1 hE.2.1 dX11_part_154 (by decide) ?_
          refine lv_isub hE.1 hE.2.1 dX11_part_156 ?_
          refine lv_iload_n hE.1 hE.2.1 dX11_part_157 rfl (lv_at hl 1 rfl) ?_
          refine clVv (rest := []) (As := [.int (3 : Int32), .int (x3 - (97 : Int32)), .int a1]) hE hml hl.1 hw (c_X11_word hE.2.2.2.2.2 l _ _ _ _ _ hq) mu19 mu20 mu21 mu22 mu3 rfl (k := 3) (by decide +kernel) (by decide) (ci := 11) rfl (q0 := 0) rfl rfl rfl (Nat.le_of_ble_eq_true rfl) dX11_part_158 (by decide) (fun σ3 hq H locs hw => ?_)
          refine lv_goto (tgt := 211) hE.1 hE.2.1 dX11_part_161 (by decide) ?_
          refine lv_goto (tgt := 7) hE.1 hE.2.1 dX11_part_211 (by decide) ?_
          exact hK7 _ _ _ _ _ hq hw (lv_sub hl [3, 0] rfl)
    · have hq := hq.2 c6
      refine lv_iload_n hE.1 hE.2.1 dX11_part_34 rfl (lv_at hl 2 rfl) ?_
      refine lv_bipush (v := (48 : Int32)) hE.1 hE.2.1 dX11_part_35 (by decide) ?_
      refine lv_isub hE.1 hE.2.1 dX11_part_37 ?_
      refine lv_i2l (v := ((x3 - (48 : Int32))).toInt64) hE.1 hE.2.1 dX11_part_38 rfl ?_
      refine lv_topl (fun x9 ex9 => ?_)
      have hq := hq x9 ex9
      refine lv_lstore (lv' := [(4, .long x9), (1, .int x4), (3, .int a1), (2, .int x3), (0, .ref (gAd G 0))]) hE.1 hE.2.1 dX11_part_39 hl (by decide) rfl (fun ls hl => ?_)
      obtain ⟨nn, hq⟩ := hq
      exact tl_X11_part_b41 hE hml hr hlk hK7 nn _ _ _ _ _ _ _ hq hw (lv_sub hl [4, 1, 2, 0] rfl)
theorem tl_X11_part_b7 {p : Program} {l : Launch} {e : Env} {s : State} {m : MethodId} {args : Array Value} {below : List Frame} {meth : Method} {c : Code} {G : GG} {Φ : S9 → Prop}  (hE : Ev 27 G p s m args c cX11_part RX11) (hml : c.maxLocals = 6) (hr : meth.sig.returnType = none) (hlk : meth.locks = false)  : ∀ (n : Nat) (a1 : Int32) (σ : S9) (H : Heap) (locs : List Loc) (ls : Array Slot), lp_X11_part_b7  Φ n a1 σ → Pic mwl 27 G σ s.heap H locs → lv_has ls 6 [(0, .ref (gAd G 0)), (1, .int a1)] → W p l e rm_X11_part s m args below meth c H locs 0 0 (QV mwl 27 G below args s Φ) (F0 m 7 ls []) := by
  intro n
  induction n with
  | zero => intro _ _ _ _ _ hq; exact hq.elim
  | succ n ih => intro _ _ _ _ _ hq hw hl; exact tb_X11_part_b7 hE hml hr hlk  ih hq hw hl
set_option maxRecDepth 20000 in
set_option maxHeartbeats 4000000 in
theorem c_X11_part {G : GG} (hJ : gJ 27 G) (l : Launch)  (σ : S9) (Φ : S9 → Prop) (hq : wp_X11_part  σ Φ) : CV mwl 27 G l yX11_part cX11_part 6 rm_X11_part [.ref (gAd G 0)] σ Φ := by
  refine CV.intro (by decide) (Nat.le_of_ble_eq_true rfl) hJ ?_
  intro p e s m args below meth c ls hE hml hr hlk hw hl
  have hl : lv_has ls 6 [(0, .ref (gAd G 0))] := hl
  unfold wp_X11_part at hq
  refine lv_aload_n hE.1 hE.2.1 dX11_part_0 rfl (lv_at hl 0 rfl) ?_
  refine lv_iconst (v := (0 : Int32)) hE.1 hE.2.1 dX11_part_1 (by decide) ?_
  refine mpf_X11_108 hE hw dX11_part_2 (fun σ1 eσ1 H locs hw => ?_)
  have hq := hq σ1 eσ1
  refine lv_iconst (v := (0 : Int32)) hE.1 hE.2.1 dX11_part_5 (by decide) ?_
  refine lv_topi (fun x1 ex1 => ?_)
  have hq := hq x1 ex1
  refine lv_istore_n (lv' := [(1, .int x1), (0, .ref (gAd G 0))]) hE.1 hE.2.1 dX11_part_6 rfl hl (by decide) rfl (fun ls hl => ?_)
  obtain ⟨nn, hq⟩ := hq
  exact tl_X11_part_b7 hE hml hr hlk  nn _ _ _ _ _ hq hw (lv_sub hl [1, 0] rfl)
/-! QueueBenchModel.come(II)V -/
abbrev rm_X11_come : Room := { frames := 0, cells := 0, slots := 0, locals := 0 }
def wp_X11_come (a1 : Int32) (a2 : Int32) (σ : S9) (Φ : S9 → Prop) : Prop := vp_in (σ.1 5) 4000 ∧ ∀ σ1 : S9, σ1 = sA σ 4 (upd (σ.2.1 4) ((σ.1 5)).toNatClampNeg a1) → vp_in (σ1.1 5) 4000 ∧ ∀ σ2 : S9, σ2 = sA σ1 5 (upd (σ1.2.1 5) ((σ1.1 5)).toNatClampNeg a2) → ∀ σ3 : S9, σ3 = sF σ2 5 ((σ2.1 5) + (1 : Int32)) → Φ σ3
theorem dX11_come_0 : decode cX11_come 0 = .ok (.aload_n 0, 1) := by decide +kernel
theorem dX11_come_1 : decode cX11_come 1 = .ok (.getfield 22, 3) := by decide +kernel
theorem dX11_come_4 : decode cX11_come 4 = .ok (.aload_n 0, 1) := by decide +kernel
theorem dX11_come_5 : decode cX11_come 5 = .ok (.getfield 131, 3) := by decide +kernel
theorem dX11_come_8 : decode cX11_come 8 = .ok (.iload_n 1, 1) := by decide +kernel
theorem dX11_come_9 : decode cX11_come 9 = .ok (.iastore, 1) := by decide +kernel
theorem dX11_come_10 : decode cX11_come 10 = .ok (.aload_n 0, 1) := by decide +kernel
theorem dX11_come_11 : decode cX11_come 11 = .ok (.getfield 25, 3) := by decide +kernel
theorem dX11_come_14 : decode cX11_come 14 = .ok (.aload_n 0, 1) := by decide +kernel
theorem dX11_come_15 : decode cX11_come 15 = .ok (.getfield 131, 3) := by decide +kernel
theorem dX11_come_18 : decode cX11_come 18 = .ok (.iload_n 2, 1) := by decide +kernel
theorem dX11_come_19 : decode cX11_come 19 = .ok (.iastore, 1) := by decide +kernel
theorem dX11_come_20 : decode cX11_come 20 = .ok (.aload_n 0, 1) := by decide +kernel
theorem dX11_come_21 : decode cX11_come 21 = .ok (.dup, 1) := by decide +kernel
theorem dX11_come_22 : decode cX11_come 22 = .ok (.getfield 131, 3) := by decide +kernel
theorem dX11_come_25 : decode cX11_come 25 = .ok (.iconst 1, 1) := by decide +kernel
theorem dX11_come_26 : decode cX11_come 26 = .ok (.iadd, 1) := by decide +kernel
theorem dX11_come_27 : decode cX11_come 27 = .ok (.putfield 131, 3) := by decide +kernel
theorem dX11_come_30 : decode cX11_come 30 = .ok (.return_, 1) := by decide +kernel
set_option maxRecDepth 20000 in
set_option maxHeartbeats 4000000 in
theorem c_X11_come {G : GG} (hJ : gJ 27 G) (l : Launch) (a1 : Int32) (a2 : Int32) (σ : S9) (Φ : S9 → Prop) (hq : wp_X11_come a1 a2 σ Φ) : CV mwl 27 G l yX11_come cX11_come 3 rm_X11_come [.ref (gAd G 0), .int a1, .int a2] σ Φ := by
  refine CV.intro (by decide) (Nat.le_of_ble_eq_true rfl) hJ ?_
  intro p e s m args below meth c ls hE hml hr hlk hw hl
  have hl : lv_has ls 3 [(0, .ref (gAd G 0)), (1, .int a1), (2, .int a2)] := hl
  unfold wp_X11_come at hq
  refine lv_aload_n hE.1 hE.2.1 dX11_come_0 rfl (lv_at hl 0 rfl) ?_
  refine mgf_X11_22 hE hw dX11_come_1 ?_
  refine lv_aload_n hE.1 hE.2.1 dX11_come_4 rfl (lv_at hl 0 rfl) ?_
  refine mgf_X11_131 hE hw dX11_come_5 ?_
  refine lv_iload_n hE.1 hE.2.1 dX11_come_8 rfl (lv_at hl 1 rfl) ?_
  obtain ⟨hi1, hq⟩ := hq
  refine mas_5 hE hw hi1 dX11_come_9 (fun σ1 eσ1 H locs hw => ?_)
  have hq := hq σ1 eσ1
  refine lv_aload_n hE.1 hE.2.1 dX11_come_10 rfl (lv_at hl 0 rfl) ?_
  refine mgf_X11_25 hE hw dX11_come_11 ?_
  refine lv_aload_n hE.1 hE.2.1 dX11_come_14 rfl (lv_at hl 0 rfl) ?_
  refine mgf_X11_131 hE hw dX11_come_15 ?_
  refine lv_iload_n hE.1 hE.2.1 dX11_come_18 rfl (lv_at hl 2 rfl) ?_
  obtain ⟨hi2, hq⟩ := hq
  refine mas_6 hE hw hi2 dX11_come_19 (fun σ2 eσ2 H locs hw => ?_)
  have hq := hq σ2 eσ2
  refine lv_aload_n hE.1 hE.2.1 dX11_come_20 rfl (lv_at hl 0 rfl) ?_
  refine lv_dup hE.1 hE.2.1 dX11_come_21 rfl ?_
  refine mgf_X11_131 hE hw dX11_come_22 ?_
  refine lv_iconst (v := (1 : Int32)) hE.1 hE.2.1 dX11_come_25 (by decide) ?_
  refine lv_iadd hE.1 hE.2.1 dX11_come_26 ?_
  refine mpf_X11_131 hE hw dX11_come_27 (fun σ3 eσ3 H locs hw => ?_)
  have hq := hq σ3 eσ3
  exact rtV hE hr hlk hw hq dX11_come_30
/-! QueueBenchModel.code(III)I -/
abbrev rm_X11_code : Room := { frames := 0, cells := 0, slots := 0, locals := 0 }
def wp_X11_code (a1 : Int32) (a2 : Int32) (a3 : Int32) (σ : S9) (Φ : Int32 → S9 → Prop) : Prop := vp_in (σ.1 11) 1200 ∧ ∀ σ1 : S9, σ1 = sA σ 6 (upd (σ.2.1 6) ((σ.1 11)).toNatClampNeg a1) → vp_in (σ1.1 11) 1200 ∧ ∀ σ2 : S9, σ2 = sA σ1 7 (upd (σ1.2.1 7) ((σ1.1 11)).toNatClampNeg a2) → vp_in (σ2.1 11) 1200 ∧ ∀ σ3 : S9, σ3 = sA σ2 8 (upd (σ2.2.1 8) ((σ2.1 11)).toNatClampNeg (σ2.1 12)) → vp_in (σ3.1 11) 1200 ∧ ∀ σ4 : S9, σ4 = sA σ3 9 (upd (σ3.2.1 9) ((σ3.1 11)).toNatClampNeg (σ3.1 12)) → vp_in (σ4.1 11) 1200 ∧ ∀ σ5 : S9, σ5 = sA σ4 10 (upd (σ4.2.1 10) ((σ4.1 11)).toNatClampNeg a3) → vp_in (σ5.1 11) 1200 ∧ ∀ σ6 : S9, σ6 = sA σ5 11 (upd (σ5.2.1 11) ((σ5.1 11)).toNatClampNeg (0 : Int32)) → ∀ σ7 : S9, σ7 = sF σ6 11 ((σ6.1 11) + (1 : Int32)) → Φ ((σ7.1 11) - (1 : Int32)) σ7
theorem dX11_code_0 : decode cX11_code 0 = .ok (.aload_n 0, 1) := by decide +kernel
theorem dX11_code_1 : decode cX11_code 1 = .ok (.getfield 28, 3) := by decide +kernel
theorem dX11_code_4 : decode cX11_code 4 = .ok (.aload_n 0, 1) := by decide +kernel
theorem dX11_code_5 : decode cX11_code 5 = .ok (.getfield 134, 3) := by decide +kernel
theorem dX11_code_8 : decode cX11_code 8 = .ok (.iload_n 1, 1) := by decide +kernel
theorem dX11_code_9 : decode cX11_code 9 = .ok (.iastore, 1) := by decide +kernel
theorem dX11_code_10 : decode cX11_code 10 = .ok (.aload_n 0, 1) := by decide +kernel
theorem dX11_code_11 : decode cX11_code 11 = .ok (.getfield 31, 3) := by decide +kernel
theorem dX11_code_14 : decode cX11_code 14 = .ok (.aload_n 0, 1) := by decide +kernel
theorem dX11_code_15 : decode cX11_code 15 = .ok (.getfield 134, 3) := by decide +kernel
theorem dX11_code_18 : decode cX11_code 18 = .ok (.iload_n 2, 1) := by decide +kernel
theorem dX11_code_19 : decode cX11_code 19 = .ok (.iastore, 1) := by decide +kernel
theorem dX11_code_20 : decode cX11_code 20 = .ok (.aload_n 0, 1) := by decide +kernel
theorem dX11_code_21 : decode cX11_code 21 = .ok (.getfield 34, 3) := by decide +kernel
theorem dX11_code_24 : decode cX11_code 24 = .ok (.aload_n 0, 1) := by decide +kernel
theorem dX11_code_25 : decode cX11_code 25 = .ok (.getfield 134, 3) := by decide +kernel
theorem dX11_code_28 : decode cX11_code 28 = .ok (.aload_n 0, 1) := by decide +kernel
theorem dX11_code_29 : decode cX11_code 29 = .ok (.getfield 137, 3) := by decide +kernel
theorem dX11_code_32 : decode cX11_code 32 = .ok (.iastore, 1) := by decide +kernel
theorem dX11_code_33 : decode cX11_code 33 = .ok (.aload_n 0, 1) := by decide +kernel
theorem dX11_code_34 : decode cX11_code 34 = .ok (.getfield 37, 3) := by decide +kernel
theorem dX11_code_37 : decode cX11_code 37 = .ok (.aload_n 0, 1) := by decide +kernel
theorem dX11_code_38 : decode cX11_code 38 = .ok (.getfield 134, 3) := by decide +kernel
theorem dX11_code_41 : decode cX11_code 41 = .ok (.aload_n 0, 1) := by decide +kernel
theorem dX11_code_42 : decode cX11_code 42 = .ok (.getfield 137, 3) := by decide +kernel
theorem dX11_code_45 : decode cX11_code 45 = .ok (.iastore, 1) := by decide +kernel
theorem dX11_code_46 : decode cX11_code 46 = .ok (.aload_n 0, 1) := by decide +kernel
theorem dX11_code_47 : decode cX11_code 47 = .ok (.getfield 40, 3) := by decide +kernel
theorem dX11_code_50 : decode cX11_code 50 = .ok (.aload_n 0, 1) := by decide +kernel
theorem dX11_code_51 : decode cX11_code 51 = .ok (.getfield 134, 3) := by decide +kernel
theorem dX11_code_54 : decode cX11_code 54 = .ok (.iload_n 3, 1) := by decide +kernel
theorem dX11_code_55 : decode cX11_code 55 = .ok (.iastore, 1) := by decide +kernel
theorem dX11_code_56 : decode cX11_code 56 = .ok (.aload_n 0, 1) := by decide +kernel
theorem dX11_code_57 : decode cX11_code 57 = .ok (.getfield 43, 3) := by decide +kernel
theorem dX11_code_60 : decode cX11_code 60 = .ok (.aload_n 0, 1) := by decide +kernel
theorem dX11_code_61 : decode cX11_code 61 = .ok (.getfield 134, 3) := by decide +kernel
theorem dX11_code_64 : decode cX11_code 64 = .ok (.iconst 0, 1) := by decide +kernel
theorem dX11_code_65 : decode cX11_code 65 = .ok (.iastore, 1) := by decide +kernel
theorem dX11_code_66 : decode cX11_code 66 = .ok (.aload_n 0, 1) := by decide +kernel
theorem dX11_code_67 : decode cX11_code 67 = .ok (.dup, 1) := by decide +kernel
theorem dX11_code_68 : decode cX11_code 68 = .ok (.getfield 134, 3) := by decide +kernel
theorem dX11_code_71 : decode cX11_code 71 = .ok (.iconst 1, 1) := by decide +kernel
theorem dX11_code_72 : decode cX11_code 72 = .ok (.iadd, 1) := by decide +kernel
theorem dX11_code_73 : decode cX11_code 73 = .ok (.putfield 134, 3) := by decide +kernel
theorem dX11_code_76 : decode cX11_code 76 = .ok (.aload_n 0, 1) := by decide +kernel
theorem dX11_code_77 : decode cX11_code 77 = .ok (.getfield 134, 3) := by decide +kernel
theorem dX11_code_80 : decode cX11_code 80 = .ok (.iconst 1, 1) := by decide +kernel
theorem dX11_code_81 : decode cX11_code 81 = .ok (.isub, 1) := by decide +kernel
theorem dX11_code_82 : decode cX11_code 82 = .ok (.ireturn, 1) := by decide +kernel
set_option maxRecDepth 20000 in
set_option maxHeartbeats 4000000 in
theorem c_X11_code {G : GG} (hJ : gJ 27 G) (l : Launch) (a1 : Int32) (a2 : Int32) (a3 : Int32) (σ : S9) (Φ : Int32 → S9 → Prop) (hq : wp_X11_code a1 a2 a3 σ Φ) : CI mwl 27 G l yX11_code cX11_code 4 (some .int) rm_X11_code [.ref (gAd G 0), .int a1, .int a2, .int a3] σ Φ := by
  refine CI.intro (by decide) (Nat.le_of_ble_eq_true rfl) hJ ?_
  intro p e s m args below meth c ls hE hml hr hlk hw hl
  have hl : lv_has ls 4 [(0, .ref (gAd G 0)), (1, .int a1), (2, .int a2), (3, .int a3)] := hl
  unfold wp_X11_code at hq
  refine lv_aload_n hE.1 hE.2.1 dX11_code_0 rfl (lv_at hl 0 rfl) ?_
  refine mgf_X11_28 hE hw dX11_code_1 ?_
  refine lv_aload_n hE.1 hE.2.1 dX11_code_4 rfl (lv_at hl 0 rfl) ?_
  refine mgf_X11_134 hE hw dX11_code_5 ?_
  refine lv_iload_n hE.1 hE.2.1 dX11_code_8 rfl (lv_at hl 1 rfl) ?_
  obtain ⟨hi1, hq⟩ := hq
  refine mas_7 hE hw hi1 dX11_code_9 (fun σ1 eσ1 H locs hw => ?_)
  have hq := hq σ1 eσ1
  refine lv_aload_n hE.1 hE.2.1 dX11_code_10 rfl (lv_at hl 0 rfl) ?_
  refine mgf_X11_31 hE hw dX11_code_11 ?_
  refine lv_aload_n hE.1 hE.2.1 dX11_code_14 rfl (lv_at hl 0 rfl) ?_
  refine mgf_X11_134 hE hw dX11_code_15 ?_
  refine lv_iload_n hE.1 hE.2.1 dX11_code_18 rfl (lv_at hl 2 rfl) ?_
  obtain ⟨hi2, hq⟩ := hq
  refine mas_8 hE hw hi2 dX11_code_19 (fun σ2 eσ2 H locs hw => ?_)
  have hq := hq σ2 eσ2
  refine lv_aload_n hE.1 hE.2.1 dX11_code_20 rfl (lv_at hl 0 rfl) ?_
  refine mgf_X11_34 hE hw dX11_code_21 ?_
  refine lv_aload_n hE.1 hE.2.1 dX11_code_24 rfl (lv_at hl 0 rfl) ?_
  refine mgf_X11_134 hE hw dX11_code_25 ?_
  refine lv_aload_n hE.1 hE.2.1 dX11_code_28 rfl (lv_at hl 0 rfl) ?_
  refine mgf_X11_137 hE hw dX11_code_29 ?_
  obtain ⟨hi3, hq⟩ := hq
  refine mas_9 hE hw hi3 dX11_code_32 (fun σ3 eσ3 H locs hw => ?_)
  have hq := hq σ3 eσ3
  refine lv_aload_n hE.1 hE.2.1 dX11_code_33 rfl (lv_at hl 0 rfl) ?_
  refine mgf_X11_37 hE hw dX11_code_34 ?_
  refine lv_aload_n hE.1 hE.2.1 dX11_code_37 rfl (lv_at hl 0 rfl) ?_
  refine mgf_X11_134 hE hw dX11_code_38 ?_
  refine lv_aload_n hE.1 hE.2.1 dX11_code_41 rfl (lv_at hl 0 rfl) ?_
  refine mgf_X11_137 hE hw dX11_code_42 ?_
  obtain ⟨hi4, hq⟩ := hq
  refine mas_10 hE hw hi4 dX11_code_45 (fun σ4 eσ4 H locs hw => ?_)
  have hq := hq σ4 eσ4
  refine lv_aload_n hE.1 hE.2.1 dX11_code_46 rfl (lv_at hl 0 rfl) ?_
  refine mgf_X11_40 hE hw dX11_code_47 ?_
  refine lv_aload_n hE.1 hE.2.1 dX11_code_50 rfl (lv_at hl 0 rfl) ?_
  refine mgf_X11_134 hE hw dX11_code_51 ?_
  refine lv_iload_n hE.1 hE.2.1 dX11_code_54 rfl (lv_at hl 3 rfl) ?_
  obtain ⟨hi5, hq⟩ := hq
  refine mas_11 hE hw hi5 dX11_code_55 (fun σ5 eσ5 H locs hw => ?_)
  have hq := hq σ5 eσ5
  refine lv_aload_n hE.1 hE.2.1 dX11_code_56 rfl (lv_at hl 0 rfl) ?_
  refine mgf_X11_43 hE hw dX11_code_57 ?_
  refine lv_aload_n hE.1 hE.2.1 dX11_code_60 rfl (lv_at hl 0 rfl) ?_
  refine mgf_X11_134 hE hw dX11_code_61 ?_
  refine lv_iconst (v := (0 : Int32)) hE.1 hE.2.1 dX11_code_64 (by decide) ?_
  obtain ⟨hi6, hq⟩ := hq
  refine mas_12 hE hw hi6 dX11_code_65 (fun σ6 eσ6 H locs hw => ?_)
  have hq := hq σ6 eσ6
  refine lv_aload_n hE.1 hE.2.1 dX11_code_66 rfl (lv_at hl 0 rfl) ?_
  refine lv_dup hE.1 hE.2.1 dX11_code_67 rfl ?_
  refine mgf_X11_134 hE hw dX11_code_68 ?_
  refine lv_iconst (v := (1 : Int32)) hE.1 hE.2.1 dX11_code_71 (by decide) ?_
  refine lv_iadd hE.1 hE.2.1 dX11_code_72 ?_
  refine mpf_X11_134 hE hw dX11_code_73 (fun σ7 eσ7 H locs hw => ?_)
  have hq := hq σ7 eσ7
  refine lv_aload_n hE.1 hE.2.1 dX11_code_76 rfl (lv_at hl 0 rfl) ?_
  refine mgf_X11_134 hE hw dX11_code_77 ?_
  refine lv_iconst (v := (1 : Int32)) hE.1 hE.2.1 dX11_code_80 (by decide) ?_
  refine lv_isub hE.1 hE.2.1 dX11_code_81 ?_
  exact rtI hE hr hlk hw hq dX11_code_82
/-! QueueBenchModel.sees(C)Z -/
abbrev rm_X11_sees : Room := { frames := 0, cells := 0, slots := 0, locals := 0 }
def wp_X11_sees (a1 : Int32) (σ : S9) (Φ : Int32 → S9 → Prop) : Prop := vp_in (σ.1 3) 3002 ∧ ((σ.2.1 1 ((σ.1 3)).toNatClampNeg) = ((100 : Int32) + a1) → Φ (1 : Int32) σ) ∧ (¬ (σ.2.1 1 ((σ.1 3)).toNatClampNeg) = ((100 : Int32) + a1) → Φ (0 : Int32) σ)
theorem dX11_sees_0 : decode cX11_sees 0 = .ok (.aload_n 0, 1) := by decide +kernel
theorem dX11_sees_1 : decode cX11_sees 1 = .ok (.getfield 13, 3) := by decide +kernel
theorem dX11_sees_4 : decode cX11_sees 4 = .ok (.aload_n 0, 1) := by decide +kernel
theorem dX11_sees_5 : decode cX11_sees 5 = .ok (.getfield 125, 3) := by decide +kernel
theorem dX11_sees_8 : decode cX11_sees 8 = .ok (.iaload, 1) := by decide +kernel
theorem dX11_sees_9 : decode cX11_sees 9 = .ok (.bipush 100, 2) := by decide +kernel
theorem dX11_sees_11 : decode cX11_sees 11 = .ok (.iload_n 1, 1) := by decide +kernel
theorem dX11_sees_12 : decode cX11_sees 12 = .ok (.iadd, 1) := by decide +kernel
theorem dX11_sees_13 : decode cX11_sees 13 = .ok (.if_icmp .ne 7, 3) := by decide +kernel
theorem dX11_sees_16 : decode cX11_sees 16 = .ok (.iconst 1, 1) := by decide +kernel
theorem dX11_sees_17 : decode cX11_sees 17 = .ok (.goto 4, 3) := by decide +kernel
theorem dX11_sees_20 : decode cX11_sees 20 = .ok (.iconst 0, 1) := by decide +kernel
theorem dX11_sees_21 : decode cX11_sees 21 = .ok (.ireturn, 1) := by decide +kernel
set_option maxRecDepth 20000 in
set_option maxHeartbeats 4000000 in
theorem c_X11_sees {G : GG} (hJ : gJ 27 G) (l : Launch) (a1 : Int32) (σ : S9) (Φ : Int32 → S9 → Prop) (hq : wp_X11_sees a1 σ Φ) : CI mwl 27 G l yX11_sees cX11_sees 2 (some .boolean) rm_X11_sees [.ref (gAd G 0), .int a1] σ Φ := by
  refine CI.intro (by decide) (Nat.le_of_ble_eq_true rfl) hJ ?_
  intro p e s m args below meth c ls hE hml hr hlk hw hl
  have hl : lv_has ls 2 [(0, .ref (gAd G 0)), (1, .int a1)] := hl
  unfold wp_X11_sees at hq
  refine lv_aload_n hE.1 hE.2.1 dX11_sees_0 rfl (lv_at hl 0 rfl) ?_
  refine mgf_X11_13 hE hw dX11_sees_1 ?_
  refine lv_aload_n hE.1 hE.2.1 dX11_sees_4 rfl (lv_at hl 0 rfl) ?_
  refine mgf_X11_125 hE hw dX11_sees_5 ?_
  obtain ⟨hi1, hq⟩ := hq
  refine mal_2 hE hw hi1 dX11_sees_8 ?_
  refine lv_bipush (v := (100 : Int32)) hE.1 hE.2.1 dX11_sees_9 (by decide) ?_
  refine lv_iload_n hE.1 hE.2.1 dX11_sees_11 rfl (lv_at hl 1 rfl) ?_
  refine lv_iadd hE.1 hE.2.1 dX11_sees_12 ?_
  refine lv_icmp_ne (tgt := 20) hE.1 hE.2.1 dX11_sees_13 (by decide) (fun c2 => ?_) (fun c2 => ?_)
  · have hq := hq.2 c2
    refine lv_iconst (v := (0 : Int32)) hE.1 hE.2.1 dX11_sees_20 (by decide) ?_
    exact rtZ hE hr hlk rfl hw hq dX11_sees_21
  · have hq := hq.1 c2
    refine lv_iconst (v := (1 : Int32)) hE.1 hE.2.1 dX11_sees_16 (by decide) ?_
    refine lv_goto (tgt := 21) hE.1 hE.2.1 dX11_sees_17 (by decide) ?_
    exact rtZ hE hr hlk rfl hw hq dX11_sees_21
/-! QueueBenchModel.fail(I)V -/
abbrev rm_X11_fail : Room := { frames := 0, cells := 0, slots := 0, locals := 0 }
def wp_X11_fail (a1 : Int32) (σ : S9) (Φ : S9 → Prop) : Prop := ((σ.1 4) = (-1 : Int32) → vp_in a1 3002 ∧ ∀ σ2 : S9, σ2 = sF σ 4 (σ.2.1 3 (a1).toNatClampNeg) → Φ σ2) ∧ (¬ (σ.1 4) = (-1 : Int32) → ∀ σ1 : S9, σ1 = sF σ 4 (σ.1 4) → Φ σ1)
theorem dX11_fail_0 : decode cX11_fail 0 = .ok (.aload_n 0, 1) := by decide +kernel
theorem dX11_fail_1 : decode cX11_fail 1 = .ok (.aload_n 0, 1) := by decide +kernel
theorem dX11_fail_2 : decode cX11_fail 2 = .ok (.getfield 128, 3) := by decide +kernel
theorem dX11_fail_5 : decode cX11_fail 5 = .ok (.iconst (-1), 1) := by decide +kernel
theorem dX11_fail_6 : decode cX11_fail 6 = .ok (.if_icmp .ne 12, 3) := by decide +kernel
theorem dX11_fail_9 : decode cX11_fail 9 = .ok (.aload_n 0, 1) := by decide +kernel
theorem dX11_fail_10 : decode cX11_fail 10 = .ok (.getfield 19, 3) := by decide +kernel
theorem dX11_fail_13 : decode cX11_fail 13 = .ok (.iload_n 1, 1) := by decide +kernel
theorem dX11_fail_14 : decode cX11_fail 14 = .ok (.iaload, 1) := by decide +kernel
theorem dX11_fail_15 : decode cX11_fail 15 = .ok (.goto 7, 3) := by decide +kernel
theorem dX11_fail_18 : decode cX11_fail 18 = .ok (.aload_n 0, 1) := by decide +kernel
theorem dX11_fail_19 : decode cX11_fail 19 = .ok (.getfield 128, 3) := by decide +kernel
theorem dX11_fail_22 : decode cX11_fail 22 = .ok (.putfield 128, 3) := by decide +kernel
theorem dX11_fail_25 : decode cX11_fail 25 = .ok (.return_, 1) := by decide +kernel
set_option maxRecDepth 20000 in
set_option maxHeartbeats 4000000 in
theorem c_X11_fail {G : GG} (hJ : gJ 27 G) (l : Launch) (a1 : Int32) (σ : S9) (Φ : S9 → Prop) (hq : wp_X11_fail a1 σ Φ) : CV mwl 27 G l yX11_fail cX11_fail 2 rm_X11_fail [.ref (gAd G 0), .int a1] σ Φ := by
  refine CV.intro (by decide) (Nat.le_of_ble_eq_true rfl) hJ ?_
  intro p e s m args below meth c ls hE hml hr hlk hw hl
  have hl : lv_has ls 2 [(0, .ref (gAd G 0)), (1, .int a1)] := hl
  unfold wp_X11_fail at hq
  refine lv_aload_n hE.1 hE.2.1 dX11_fail_0 rfl (lv_at hl 0 rfl) ?_
  refine lv_aload_n hE.1 hE.2.1 dX11_fail_1 rfl (lv_at hl 0 rfl) ?_
  refine mgf_X11_128 hE hw dX11_fail_2 ?_
  refine lv_iconst (v := (-1 : Int32)) hE.1 hE.2.1 dX11_fail_5 (by decide) ?_
  refine lv_icmp_ne (tgt := 18) hE.1 hE.2.1 dX11_fail_6 (by decide) (fun c1 => ?_) (fun c1 => ?_)
  · have hq := hq.2 c1
    refine lv_aload_n hE.1 hE.2.1 dX11_fail_18 rfl (lv_at hl 0 rfl) ?_
    refine mgf_X11_128 hE hw dX11_fail_19 ?_
    refine mpf_X11_128 hE hw dX11_fail_22 (fun σ1 eσ1 H locs hw => ?_)
    have hq := hq σ1 eσ1
    exact rtV hE hr hlk hw hq dX11_fail_25
  · have hq := hq.1 c1
    refine lv_aload_n hE.1 hE.2.1 dX11_fail_9 rfl (lv_at hl 0 rfl) ?_
    refine mgf_X11_19 hE hw dX11_fail_10 ?_
    refine lv_iload_n hE.1 hE.2.1 dX11_fail_13 rfl (lv_at hl 1 rfl) ?_
    obtain ⟨hi2, hq⟩ := hq
    refine mal_4 hE hw hi2 dX11_fail_14 ?_
    refine lv_goto (tgt := 22) hE.1 hE.2.1 dX11_fail_15 (by decide) ?_
    refine mpf_X11_128 hE hw dX11_fail_22 (fun σ2 eσ2 H locs hw => ?_)
    have hq := hq σ2 eσ2
    exact rtV hE hr hlk hw hq dX11_fail_25
/-! QueueBenchModel.expect(C)V -/
abbrev rm_X11_expect : Room := { frames := 1, cells := 0, slots := 0, locals := 21 }
def wp_X11_expect (a1 : Int32) (σ : S9) (Φ : S9 → Prop) : Prop := wp_X11_sees a1 σ (fun r1 σ1 => (r1 = 0 → wp_X11_fail (σ1.1 3) σ1 (fun σ2 => Φ σ2)) ∧ (¬ r1 = 0 → ∀ σ3 : S9, σ3 = sF σ1 3 ((σ1.1 3) + (1 : Int32)) → Φ σ3))
theorem dX11_expect_0 : decode cX11_expect 0 = .ok (.aload_n 0, 1) := by decide +kernel
theorem dX11_expect_1 : decode cX11_expect 1 = .ok (.iload_n 1, 1) := by decide +kernel
theorem dX11_expect_2 : decode cX11_expect 2 = .ok (.invokevirtual 175, 3) := by decide +kernel
theorem dX11_expect_5 : decode cX11_expect 5 = .ok (.ifCond .eq 16, 3) := by decide +kernel
theorem dX11_expect_8 : decode cX11_expect 8 = .ok (.aload_n 0, 1) := by decide +kernel
theorem dX11_expect_9 : decode cX11_expect 9 = .ok (.dup, 1) := by decide +kernel
theorem dX11_expect_10 : decode cX11_expect 10 = .ok (.getfield 125, 3) := by decide +kernel
theorem dX11_expect_13 : decode cX11_expect 13 = .ok (.iconst 1, 1) := by decide +kernel
theorem dX11_expect_14 : decode cX11_expect 14 = .ok (.iadd, 1) := by decide +kernel
theorem dX11_expect_15 : decode cX11_expect 15 = .ok (.putfield 125, 3) := by decide +kernel
theorem dX11_expect_18 : decode cX11_expect 18 = .ok (.goto 11, 3) := by decide +kernel
theorem dX11_expect_21 : decode cX11_expect 21 = .ok (.aload_n 0, 1) := by decide +kernel
theorem dX11_expect_22 : decode cX11_expect 22 = .ok (.aload_n 0, 1) := by decide +kernel
theorem dX11_expect_23 : decode cX11_expect 23 = .ok (.getfield 125, 3) := by decide +kernel
theorem dX11_expect_26 : decode cX11_expect 26 = .ok (.invokevirtual 153, 3) := by decide +kernel
theorem dX11_expect_29 : decode cX11_expect 29 = .ok (.return_, 1) := by decide +kernel
set_option maxRecDepth 20000 in
set_option maxHeartbeats 4000000 in
theorem c_X11_expect {G : GG} (hJ : gJ 27 G) (l : Launch) (a1 : Int32) (σ : S9) (Φ : S9 → Prop) (hq : wp_X11_expect a1 σ Φ) : CV mwl 27 G l yX11_expect cX11_expect 2 rm_X11_expect [.ref (gAd G 0), .int a1] σ Φ := by
  refine CV.intro (by decide) (Nat.le_of_ble_eq_true rfl) hJ ?_
  intro p e s m args below meth c ls hE hml hr hlk hw hl
  have hl : lv_has ls 2 [(0, .ref (gAd G 0)), (1, .int a1)] := hl
  unfold wp_X11_expect at hq
  refine lv_aload_n hE.1 hE.2.1 dX11_expect_0 rfl (lv_at hl 0 rfl) ?_
  refine lv_iload_n hE.1 hE.2.1 dX11_expect_1 rfl (lv_at hl 1 rfl) ?_
  refine clVi (rest := []) (As := [.int a1]) hE hml hl.1 hw (c_X11_sees hE.2.2.2.2.2 l _ _ _ hq) mu60 mu61 mu62 mu63 mu3 rfl (k := 1) (by decide +kernel) (by decide) (ci := 11) rfl (q0 := 0) rfl rfl rfl (Nat.le_of_ble_eq_true rfl) dX11_expect_2 (by decide) (fun r1 σ1 hq H locs hw => ?_)
  refine lv_if_eq (tgt := 21) hE.1 hE.2.1 dX11_expect_5 (by decide) (fun c2 => ?_) (fun c2 => ?_)
  · have hq := hq.1 c2
    refine lv_aload_n hE.1 hE.2.1 dX11_expect_21 rfl (lv_at hl 0 rfl) ?_
    refine lv_aload_n hE.1 hE.2.1 dX11_expect_22 rfl (lv_at hl 0 rfl) ?_
    refine mgf_X11_125 hE hw dX11_expect_23 ?_
    refine clVv (rest := []) (As := [.int (σ1.1 3)]) hE hml hl.1 hw (c_X11_fail hE.2.2.2.2.2 l _ _ _ hq) mu64 mu65 mu66 mu67 mu3 rfl (k := 1) (by decide +kernel) (by decide) (ci := 11) rfl (q0 := 0) rfl rfl rfl (Nat.le_of_ble_eq_true rfl) dX11_expect_26 (by decide) (fun σ2 hq H locs hw => ?_)
    exact rtV hE hr hlk hw hq dX11_expect_29
  · have hq := hq.2 c2
    refine lv_aload_n hE.1 hE.2.1 dX11_expect_8 rfl (lv_at hl 0 rfl) ?_
    refine lv_dup hE.1 hE.2.1 dX11_expect_9 rfl ?_
    refine mgf_X11_125 hE hw dX11_expect_10 ?_
    refine lv_iconst (v := (1 : Int32)) hE.1 hE.2.1 dX11_expect_13 (by decide) ?_
    refine lv_iadd hE.1 hE.2.1 dX11_expect_14 ?_
    refine mpf_X11_125 hE hw dX11_expect_15 (fun σ3 eσ3 H locs hw => ?_)
    have hq := hq σ3 eσ3
    refine lv_goto (tgt := 29) hE.1 hE.2.1 dX11_expect_18 (by decide) ?_
    exact rtV hE hr hlk hw hq dX11_expect_29
/-! QueueBenchModel.joined(ZII)V -/
abbrev rm_X11_joined : Room := { frames := 1, cells := 0, slots := 0, locals := 22 }
def wp_X11_joined_b39  (Φ : S9 → Prop) (a2 : Int32) (a4 : Int32) (σ : S9) : Prop := wp_X11_come (13 : Int32) a4 σ (fun σ1 => wp_X11_come a2 (0 : Int32) σ1 (fun σ2 => Φ σ2))
def wp_X11_joined (a1 : Int32) (a2 : Int32) (a3 : Int32) (σ : S9) (Φ : S9 → Prop) : Prop := (a1 = 0 → Φ σ) ∧ (¬ a1 = 0 → vp_in (σ.1 3) 3002 ∧ ∀ x3 : Int32, x3 = ((σ.2.1 1 ((σ.1 3)).toNatClampNeg) - (100 : Int32)) → ∀ σ1 : S9, σ1 = sF σ 3 ((σ.1 3) + (1 : Int32)) → (a3 = 0 → wp_X11_joined_b39  Φ a2 x3 σ1) ∧ (¬ a3 = 0 → wp_X11_come a3 (0 : Int32) σ1 (fun σ2 => wp_X11_joined_b39  Φ a2 x3 σ2)))
theorem dX11_joined_0 : decode cX11_joined 0 = .ok (.iload_n 1, 1) := by decide +kernel
theorem dX11_joined_1 : decode cX11_joined 1 = .ok (.ifCond .ne 4, 3) := by decide +kernel
theorem dX11_joined_4 : decode cX11_joined 4 = .ok (.return_, 1) := by decide +kernel
theorem dX11_joined_5 : decode cX11_joined 5 = .ok (.aload_n 0, 1) := by decide +kernel
theorem dX11_joined_6 : decode cX11_joined 6 = .ok (.getfield 13, 3) := by decide +kernel
theorem dX11_joined_9 : decode cX11_joined 9 = .ok (.aload_n 0, 1) := by decide +kernel
theorem dX11_joined_10 : decode cX11_joined 10 = .ok (.getfield 125, 3) := by decide +kernel
theorem dX11_joined_13 : decode cX11_joined 13 = .ok (.iaload, 1) := by decide +kernel
theorem dX11_joined_14 : decode cX11_joined 14 = .ok (.bipush 100, 2) := by decide +kernel
theorem dX11_joined_16 : decode cX11_joined 16 = .ok (.isub, 1) := by decide +kernel
theorem dX11_joined_17 : decode cX11_joined 17 = .ok (.istore 4, 2) := by decide +kernel
theorem dX11_joined_19 : decode cX11_joined 19 = .ok (.aload_n 0, 1) := by decide +kernel
theorem dX11_joined_20 : decode cX11_joined 20 = .ok (.dup, 1) := by decide +kernel
theorem dX11_joined_21 : decode cX11_joined 21 = .ok (.getfield 125, 3) := by decide +kernel
theorem dX11_joined_24 : decode cX11_joined 24 = .ok (.iconst 1, 1) := by decide +kernel
theorem dX11_joined_25 : decode cX11_joined 25 = .ok (.iadd, 1) := by decide +kernel
theorem dX11_joined_26 : decode cX11_joined 26 = .ok (.putfield 125, 3) := by decide +kernel
theorem dX11_joined_29 : decode cX11_joined 29 = .ok (.iload_n 3, 1) := by decide +kernel
theorem dX11_joined_30 : decode cX11_joined 30 = .ok (.ifCond .eq 9, 3) := by decide +kernel
theorem dX11_joined_33 : decode cX11_joined 33 = .ok (.aload_n 0, 1) := by decide +kernel
theorem dX11_joined_34 : decode cX11_joined 34 = .ok (.iload_n 3, 1) := by decide +kernel
theorem dX11_joined_35 : decode cX11_joined 35 = .ok (.iconst 0, 1) := by decide +kernel
theorem dX11_joined_36 : decode cX11_joined 36 = .ok (.invokevirtual 162, 3) := by decide +kernel
theorem dX11_joined_39 : decode cX11_joined 39 = .ok (.aload_n 0, 1) := by decide +kernel
theorem dX11_joined_40 : decode cX11_joined 40 = .ok (.bipush 13, 2) := by decide +kernel
theorem dX11_joined_42 : decode cX11_joined 42 = .ok (.iload 4, 2) := by decide +kernel
theorem dX11_joined_44 : decode cX11_joined 44 = .ok (.invokevirtual 162, 3) := by decide +kernel
theorem dX11_joined_47 : decode cX11_joined 47 = .ok (.aload_n 0, 1) := by decide +kernel
theorem dX11_joined_48 : decode cX11_joined 48 = .ok (.iload_n 2, 1) := by decide +kernel
theorem dX11_joined_49 : decode cX11_joined 49 = .ok (.iconst 0, 1) := by decide +kernel
theorem dX11_joined_50 : decode cX11_joined 50 = .ok (.invokevirtual 162, 3) := by decide +kernel
theorem dX11_joined_53 : decode cX11_joined 53 = .ok (.return_, 1) := by decide +kernel
set_option maxRecDepth 20000 in
set_option maxHeartbeats 4000000 in
theorem tb_X11_joined_b39 {p : Program} {l : Launch} {e : Env} {s : State} {m : MethodId} {args : Array Value} {below : List Frame} {meth : Method} {c : Code} {G : GG} {Φ : S9 → Prop}  (hE : Ev 27 G p s m args c cX11_joined RX11) (hml : c.maxLocals = 5) (hr : meth.sig.returnType = none) (hlk : meth.locks = false)  {a2 : Int32} {a4 : Int32} {σ : S9} {H : Heap} {locs : List Loc} {ls : Array Slot} (hq : wp_X11_joined_b39  Φ a2 a4 σ) (hw : Pic mwl 27 G σ s.heap H locs) (hl : lv_has ls 5 [(0, .ref (gAd G 0)), (2, .int a2), (4, .int a4)]) : W p l e rm_X11_joined s m args below meth c H locs 0 0 (QV mwl 27 G below args s Φ) (F0 m 39 ls []) := by
  unfold wp_X11_joined_b39 at hq
  refine lv_aload_n hE.1 hE.2.1 dX11_joined_39 rfl (lv_at hl 0 rfl) ?_
  refine lv_bipush (v := (13 : Int32)) hE.1 hE.2.1 dX11_joined_40 (by decide) ?_
  refine lv_iload hE.1 hE.2.1 dX11_joined_42 (lv_at hl 2 rfl) ?_
  refine clVv (rest := []) (As := [.int (13 : Int32), .int a4]) hE hml hl.1 hw (c_X11_come hE.2.2.2.2.2 l _ _ _ _ hq) mu45 mu46 mu47 mu48 mu3 rfl (k := 2) (by decide +kernel) (by decide) (ci := 11) rfl (q0 := 0) rfl rfl rfl (Nat.le_of_ble_eq_true rfl) dX11_joined_44 (by decide) (fun σ1 hq H locs hw => ?_)
  refine lv_aload_n hE.1 hE.2.1 dX11_joined_47 rfl (lv_at hl 0 rfl) ?_
  refine lv_iload_n hE.1 hE.2.1 dX11_joined_48 rfl (lv_at hl 1 rfl) ?_
  refine lv_iconst (v := (0 : Int32)) hE.1 hE.2.1 dX11_joined_49 (by decide) ?_
  refine clVv (rest := []) (As := [.int a2, .int (0 : Int32)]) hE hml hl.1 hw (c_X11_come hE.2.2.2.2.2 l _ _ _ _ hq) mu45 mu46 mu47 mu48 mu3 rfl (k := 2) (by decide +kernel) (by decide) (ci := 11) rfl (q0 := 0) rfl rfl rfl (Nat.le_of_ble_eq_true rfl) dX11_joined_50 (by decide) (fun σ2 hq H locs hw => ?_)
  exact rtV hE hr hlk hw hq dX11_joined_53
set_option maxRecDepth 20000 in
set_option maxHeartbeats 4000000 in
theorem c_X11_joined {G : GG} (hJ : gJ 27 G) (l : Launch) (a1 : Int32) (a2 : Int32) (a3 : Int32) (σ : S9) (Φ : S9 → Prop) (hq : wp_X11_joined a1 a2 a3 σ Φ) : CV mwl 27 G l yX11_joined cX11_joined 5 rm_X11_joined [.ref (gAd G 0), .int a1, .int a2, .int a3] σ Φ := by
  refine CV.intro (by decide) (Nat.le_of_ble_eq_true rfl) hJ ?_
  intro p e s m args below meth c ls hE hml hr hlk hw hl
  have hl : lv_has ls 5 [(0, .ref (gAd G 0)), (1, .int a1), (2, .int a2), (3, .int a3)] := hl
  unfold wp_X11_joined at hq
  refine lv_iload_n hE.1 hE.2.1 dX11_joined_0 rfl (lv_at hl 1 rfl) ?_
  refine lv_if_ne (tgt := 5) hE.1 hE.2.1 dX11_joined_1 (by decide) (fun c1 => ?_) (fun c1 => ?_)
  · have hq := hq.2 c1
    refine lv_aload_n hE.1 hE.2.1 dX11_joined_5 rfl (lv_at hl 0 rfl) ?_
    refine mgf_X11_13 hE hw dX11_joined_6 ?_
    refine lv_aload_n hE.1 hE.2.1 dX11_joined_9 rfl (lv_at hl 0 rfl) ?_
    refine mgf_X11_125 hE hw dX11_joined_10 ?_
    obtain ⟨hi2, hq⟩ := hq
    refine mal_2 hE hw hi2 dX11_joined_13 ?_
    refine lv_bipush (v := (100 : Int32)) hE.1 hE.2.1 dX11_joined_14 (by decide) ?_
    refine lv_isub hE.1 hE.2.1 dX11_joined_16 ?_
    refine lv_topi (fun x3 ex3 => ?_)
    have hq := hq x3 ex3
    refine lv_istore (lv' := [(4, .int x3), (0, .ref (gAd G 0)), (1, .int a1), (2, .int a2), (3, .int a3)]) hE.1 hE.2.1 dX11_joined_17 hl (by decide) rfl (fun ls hl => ?_)
    refine lv_aload_n hE.1 hE.2.1 dX11_joined_19 rfl (lv_at hl 1 rfl) ?_
    refine lv_dup hE.1 hE.2.1 dX11_joined_20 rfl ?_
    refine mgf_X11_125 hE hw dX11_joined_21 ?_
    refine lv_iconst (v := (1 : Int32)) hE.1 hE.2.1 dX11_joined_24 (by decide) ?_
    refine lv_iadd hE.1 hE.2.1 dX11_joined_25 ?_
    refine mpf_X11_125 hE hw dX11_joined_26 (fun σ1 eσ1 H locs hw => ?_)
    have hq := hq σ1 eσ1
    refine lv_iload_n hE.1 hE.2.1 dX11_joined_29 rfl (lv_at hl 4 rfl) ?_
    refine lv_if_eq (tgt := 39) hE.1 hE.2.1 dX11_joined_30 (by decide) (fun c4 => ?_) (fun c4 => ?_)
    · have hq := hq.1 c4
      exact tb_X11_joined_b39 hE hml hr hlk  hq hw (lv_sub hl [1, 3, 0] rfl)
    · have hq := hq.2 c4
      refine lv_aload_n hE.1 hE.2.1 dX11_joined_33 rfl (lv_at hl 1 rfl) ?_
      refine lv_iload_n hE.1 hE.2.1 dX11_joined_34 rfl (lv_at hl 4 rfl) ?_
      refine lv_iconst (v := (0 : Int32)) hE.1 hE.2.1 dX11_joined_35 (by decide) ?_
      refine clVv (rest := []) (As := [.int a3, .int (0 : Int32)]) hE hml hl.1 hw (c_X11_come hE.2.2.2.2.2 l _ _ _ _ hq) mu45 mu46 mu47 mu48 mu3 rfl (k := 2) (by decide +kernel) (by decide) (ci := 11) rfl (q0 := 0) rfl rfl rfl (Nat.le_of_ble_eq_true rfl) dX11_joined_36 (by decide) (fun σ2 hq H locs hw => ?_)
      exact tb_X11_joined_b39 hE hml hr hlk  hq hw (lv_sub hl [1, 3, 0] rfl)
  · have hq := hq.1 c1
    exact rtV hE hr hlk hw hq dX11_joined_4
/-! QueueBenchModel.term(III)I -/
abbrev rm_X11_term : Room := { frames := 0, cells := 0, slots := 0, locals := 0 }
def wp_X11_term_b60  (Φ : Int32 → S9 → Prop) (a1 : Int32) (a2 : Int32) (a3 : Int32) (σ : S9) : Prop := vp_in (σ.1 14) 400 ∧ ∀ σ1 : S9, σ1 = sA σ 16 (upd (σ.2.1 16) ((σ.1 14)).toNatClampNeg a1) → vp_in (σ1.1 14) 400 ∧ ∀ σ2 : S9, σ2 = sA σ1 17 (upd (σ1.2.1 17) ((σ1.1 14)).toNatClampNeg a2) → vp_in (σ2.1 14) 400 ∧ ∀ σ3 : S9, σ3 = sA σ2 18 (upd (σ2.2.1 18) ((σ2.1 14)).toNatClampNeg a3) → ∀ σ4 : S9, σ4 = sF σ3 14 ((σ3.1 14) + (1 : Int32)) → Φ ((σ4.1 14) - (1 : Int32)) σ4
def bd_X11_term_b3 (K3 : Int32 → Int32 → Int32 → Int32 → S9 → Prop) (Φ : Int32 → S9 → Prop) (a1 : Int32) (a2 : Int32) (a3 : Int32) (a4 : Int32) (σ : S9) : Prop := ((σ.1 14) ≤ a4 → wp_X11_term_b60  Φ a1 a2 a3 σ) ∧ (¬ (σ.1 14) ≤ a4 → (a1 = (35 : Int32) → wp_X11_term_b60  Φ a1 a2 a3 σ) ∧ (¬ a1 = (35 : Int32) → vp_in a4 400 ∧ ((σ.2.1 16 (a4).toNatClampNeg) = a1 → vp_in a4 400 ∧ ((σ.2.1 17 (a4).toNatClampNeg) = a2 → vp_in a4 400 ∧ ((σ.2.1 18 (a4).toNatClampNeg) = a3 → Φ a4 σ) ∧ (¬ (σ.2.1 18 (a4).toNatClampNeg) = a3 → ∀ x11 : Int32, x11 = a4 + 1 → K3 a1 a2 a3 x11 σ)) ∧ (¬ (σ.2.1 17 (a4).toNatClampNeg) = a2 → ∀ x8 : Int32, x8 = a4 + 1 → K3 a1 a2 a3 x8 σ)) ∧ (¬ (σ.2.1 16 (a4).toNatClampNeg) = a1 → ∀ x5 : Int32, x5 = a4 + 1 → K3 a1 a2 a3 x5 σ)))
def lp_X11_term_b3  (Φ : Int32 → S9 → Prop) : Nat → Int32 → Int32 → Int32 → Int32 → S9 → Prop
  | 0 => fun _ _ _ _ _ => False
  | n + 1 => bd_X11_term_b3  (lp_X11_term_b3  Φ n) Φ
def wp_X11_term (a1 : Int32) (a2 : Int32) (a3 : Int32) (σ : S9) (Φ : Int32 → S9 → Prop) : Prop := ∀ x1 : Int32, x1 = (0 : Int32) → ∃ n : Nat, lp_X11_term_b3  Φ n a1 a2 a3 x1 σ
theorem dX11_term_0 : decode cX11_term 0 = .ok (.iconst 0, 1) := by decide +kernel
theorem dX11_term_1 : decode cX11_term 1 = .ok (.istore 4, 2) := by decide +kernel
theorem dX11_term_3 : decode cX11_term 3 = .ok (.iload 4, 2) := by decide +kernel
theorem dX11_term_5 : decode cX11_term 5 = .ok (.aload_n 0, 1) := by decide +kernel
theorem dX11_term_6 : decode cX11_term 6 = .ok (.getfield 140, 3) := by decide +kernel
theorem dX11_term_9 : decode cX11_term 9 = .ok (.if_icmp .ge 51, 3) := by decide +kernel
theorem dX11_term_12 : decode cX11_term 12 = .ok (.iload_n 1, 1) := by decide +kernel
theorem dX11_term_13 : decode cX11_term 13 = .ok (.bipush 35, 2) := by decide +kernel
theorem dX11_term_15 : decode cX11_term 15 = .ok (.if_icmp .eq 45, 3) := by decide +kernel
theorem dX11_term_18 : decode cX11_term 18 = .ok (.aload_n 0, 1) := by decide +kernel
theorem dX11_term_19 : decode cX11_term 19 = .ok (.getfield 59, 3) := by decide +kernel
theorem dX11_term_22 : decode cX11_term 22 = .ok (.iload 4, 2) := by decide +kernel
theorem dX11_term_24 : decode cX11_term 24 = .ok (.iaload, 1) := by decide +kernel
theorem dX11_term_25 : decode cX11_term 25 = .ok (.iload_n 1, 1) := by decide +kernel
theorem dX11_term_26 : decode cX11_term 26 = .ok (.if_icmp .ne 28, 3) := by decide +kernel
theorem dX11_term_29 : decode cX11_term 29 = .ok (.aload_n 0, 1) := by decide +kernel
theorem dX11_term_30 : decode cX11_term 30 = .ok (.getfield 62, 3) := by decide +kernel
theorem dX11_term_33 : decode cX11_term 33 = .ok (.iload 4, 2) := by decide +kernel
theorem dX11_term_35 : decode cX11_term 35 = .ok (.iaload, 1) := by decide +kernel
theorem dX11_term_36 : decode cX11_term 36 = .ok (.iload_n 2, 1) := by decide +kernel
theorem dX11_term_37 : decode cX11_term 37 = .ok (.if_icmp .ne 17, 3) := by decide +kernel
theorem dX11_term_40 : decode cX11_term 40 = .ok (.aload_n 0, 1) := by decide +kernel
theorem dX11_term_41 : decode cX11_term 41 = .ok (.getfield 65, 3) := by decide +kernel
theorem dX11_term_44 : decode cX11_term 44 = .ok (.iload 4, 2) := by decide +kernel
theorem dX11_term_46 : decode cX11_term 46 = .ok (.iaload, 1) := by decide +kernel
theorem dX11_term_47 : decode cX11_term 47 = .ok (.iload_n 3, 1) := by decide +kernel
theorem dX11_term_48 : decode cX11_term 48 = .ok (.if_icmp .ne 6, 3) := by decide +kernel
theorem dX11_term_51 : decode cX11_term 51 = .ok (.iload 4, 2) := by decide +kernel
theorem dX11_term_53 : decode cX11_term 53 = .ok (.ireturn, 1) := by decide +kernel
theorem dX11_term_54 : decode cX11_term 54 = .ok (.iinc 4 1, 3) := by decide +kernel
theorem dX11_term_57 : decode cX11_term 57 = .ok (.goto (-54), 3) := by decide +kernel
theorem dX11_term_60 : decode cX11_term 60 = .ok (.aload_n 0, 1) := by decide +kernel
theorem dX11_term_61 : decode cX11_term 61 = .ok (.getfield 59, 3) := by decide +kernel
theorem dX11_term_64 : decode cX11_term 64 = .ok (.aload_n 0, 1) := by decide +kernel
theorem dX11_term_65 : decode cX11_term 65 = .ok (.getfield 140, 3) := by decide +kernel
theorem dX11_term_68 : decode cX11_term 68 = .ok (.iload_n 1, 1) := by decide +kernel
theorem dX11_term_69 : decode cX11_term 69 = .ok (.iastore, 1) := by decide +kernel
theorem dX11_term_70 : decode cX11_term 70 = .ok (.aload_n 0, 1) := by decide +kernel
theorem dX11_term_71 : decode cX11_term 71 = .ok (.getfield 62, 3) := by decide +kernel
theorem dX11_term_74 : decode cX11_term 74 = .ok (.aload_n 0, 1) := by decide +kernel
theorem dX11_term_75 : decode cX11_term 75 = .ok (.getfield 140, 3) := by decide +kernel
theorem dX11_term_78 : decode cX11_term 78 = .ok (.iload_n 2, 1) := by decide +kernel
theorem dX11_term_79 : decode cX11_term 79 = .ok (.iastore, 1) := by decide +kernel
theorem dX11_term_80 : decode cX11_term 80 = .ok (.aload_n 0, 1) := by decide +kernel
theorem dX11_term_81 : decode cX11_term 81 = .ok (.getfield 65, 3) := by decide +kernel
theorem dX11_term_84 : decode cX11_term 84 = .ok (.aload_n 0, 1) := by decide +kernel
theorem dX11_term_85 : decode cX11_term 85 = .ok (.getfield 140, 3) := by decide +kernel
theorem dX11_term_88 : decode cX11_term 88 = .ok (.iload_n 3, 1) := by decide +kernel
theorem dX11_term_89 : decode cX11_term 89 = .ok (.iastore, 1) := by decide +kernel
theorem dX11_term_90 : decode cX11_term 90 = .ok (.aload_n 0, 1) := by decide +kernel
theorem dX11_term_91 : decode cX11_term 91 = .ok (.dup, 1) := by decide +kernel
theorem dX11_term_92 : decode cX11_term 92 = .ok (.getfield 140, 3) := by decide +kernel
theorem dX11_term_95 : decode cX11_term 95 = .ok (.iconst 1, 1) := by decide +kernel
theorem dX11_term_96 : decode cX11_term 96 = .ok (.iadd, 1) := by decide +kernel
theorem dX11_term_97 : decode cX11_term 97 = .ok (.putfield 140, 3) := by decide +kernel
theorem dX11_term_100 : decode cX11_term 100 = .ok (.aload_n 0, 1) := by decide +kernel
theorem dX11_term_101 : decode cX11_term 101 = .ok (.getfield 140, 3) := by decide +kernel
theorem dX11_term_104 : decode cX11_term 104 = .ok (.iconst 1, 1) := by decide +kernel
theorem dX11_term_105 : decode cX11_term 105 = .ok (.isub, 1) := by decide +kernel
theorem dX11_term_106 : decode cX11_term 106 = .ok (.ireturn, 1) := by decide +kernel
set_option maxRecDepth 20000 in
set_option maxHeartbeats 4000000 in
theorem tb_X11_term_b60 {p : Program} {l : Launch} {e : Env} {s : State} {m : MethodId} {args : Array Value} {below : List Frame} {meth : Method} {c : Code} {G : GG} {Φ : Int32 → S9 → Prop}  (hE : Ev 27 G p s m args c cX11_term RX11) (hml : c.maxLocals = 5) (hr : meth.sig.returnType = (some .int)) (hlk : meth.locks = false)  {a1 : Int32} {a2 : Int32} {a3 : Int32} {σ : S9} {H : Heap} {locs : List Loc} {ls : Array Slot} (hq : wp_X11_term_b60  Φ a1 a2 a3 σ) (hw : Pic mwl 27 G σ s.heap H locs) (hl : lv_has ls 5 [(0, .ref (gAd G 0)), (1, .int a1), (2, .int a2), (3, .int a3)]) : W p l e rm_X11_term s m args below meth c H locs 0 0 (QI mwl 27 G below args s Φ) (F0 m 60 ls []) := by
  unfold wp_X11_term_b60 at hq
  refine lv_aload_n hE.1 hE.2.1 dX11_term_60 rfl (lv_at hl 0 rfl) ?_
  refine mgf_X11_59 hE hw dX11_term_61 ?_
  refine lv_aload_n hE.1 hE.2.1 dX11_term_64 rfl (lv_at hl 0 rfl) ?_
  refine mgf_X11_140 hE hw dX11_term_65 ?_
  refine lv_iload_n hE.1 hE.2.1 dX11_term_68 rfl (lv_at hl 1 rfl) ?_
  obtain ⟨hi1, hq⟩ := hq
  refine mas_17 hE hw hi1 dX11_term_69 (fun σ1 eσ1 H locs hw => ?_)
  have hq := hq σ1 eσ1
  refine lv_aload_n hE.1 hE.2.1 dX11_term_70 rfl (lv_at hl 0 rfl) ?_
  refine mgf_X11_62 hE hw dX11_term_71 ?_
  refine lv_aload_n hE.1 hE.2.1 dX11_term_74 rfl (lv_at hl 0 rfl) ?_
  refine mgf_X11_140 hE hw dX11_term_75 ?_
  refine lv_iload_n hE.1 hE.2.1 dX11_term_78 rfl (lv_at hl 2 rfl) ?_
  obtain ⟨hi2, hq⟩ := hq
  refine mas_18 hE hw hi2 dX11_term_79 (fun σ2 eσ2 H locs hw => ?_)
  have hq := hq σ2 eσ2
  refine lv_aload_n hE.1 hE.2.1 dX11_term_80 rfl (lv_at hl 0 rfl) ?_
  refine mgf_X11_65 hE hw dX11_term_81 ?_
  refine lv_aload_n hE.1 hE.2.1 dX11_term_84 rfl (lv_at hl 0 rfl) ?_
  refine mgf_X11_140 hE hw dX11_term_85 ?_
  refine lv_iload_n hE.1 hE.2.1 dX11_term_88 rfl (lv_at hl 3 rfl) ?_
  obtain ⟨hi3, hq⟩ := hq
  refine mas_19 hE hw hi3 dX11_term_89 (fun σ3 eσ3 H locs hw => ?_)
  have hq := hq σ3 eσ3
  refine lv_aload_n hE.1 hE.2.1 dX11_term_90 rfl (lv_at hl 0 rfl) ?_
  refine lv_dup hE.1 hE.2.1 dX11_term_91 rfl ?_
  refine mgf_X11_140 hE hw dX11_term_92 ?_
  refine lv_iconst (v := (1 : Int32)) hE.1 hE.2.1 dX11_term_95 (by decide) ?_
  refine lv_iadd hE.1 hE.2.1 dX11_term_96 ?_
  refine mpf_X11_140 hE hw dX11_term_97 (fun σ4 eσ4 H locs hw => ?_)
  have hq := hq σ4 eσ4
  refine lv_aload_n hE.1 hE.2.1 dX11_term_100 rfl (lv_at hl 0 rfl) ?_
  refine mgf_X11_140 hE hw dX11_term_101 ?_
  refine lv_iconst (v := (1 : Int32)) hE.1 hE.2.1 dX11_term_104 (by decide) ?_
  refine lv_isub hE.1 hE.2.1 dX11_term_105 ?_
  exact rtI hE hr hlk hw hq dX11_term_106
set_option maxRecDepth 20000 in
set_option maxHeartbeats 4000000 in
theorem tb_X11_term_b3 {p : Program} {l : Launch} {e : Env} {s : State} {m : MethodId} {args : Array Value} {below : List Frame} {meth : Method} {c : Code} {G : GG} {Φ : Int32 → S9 → Prop} {K3 : Int32 → Int32 → Int32 → Int32 → S9 → Prop} (hE : Ev 27 G p s m args c cX11_term RX11) (hml : c.maxLocals = 5) (hr : meth.sig.returnType = (some .int)) (hlk : meth.locks = false) (hK3 : ∀ (a1 : Int32) (a2 : Int32) (a3 : Int32) (a4 : Int32) (σ : S9) (H : Heap) (locs : List Loc) (ls : Array Slot), K3 a1 a2 a3 a4 σ → Pic mwl 27 G σ s.heap H locs → lv_has ls 5 [(0, .ref (gAd G 0)), (1, .int a1), (2, .int a2), (3, .int a3), (4, .int a4)] → W p l e rm_X11_term s m args below meth c H locs 0 0 (QI mwl 27 G below args s Φ) (F0 m 3 ls [])) {a1 : Int32} {a2 : Int32} {a3 : Int32} {a4 : Int32} {σ : S9} {H : Heap} {locs : List Loc} {ls : Array Slot} (hq : bd_X11_term_b3 K3 Φ a1 a2 a3 a4 σ) (hw : Pic mwl 27 G σ s.heap H locs) (hl : lv_has ls 5 [(0, .ref (gAd G 0)), (1, .int a1), (2, .int a2), (3, .int a3), (4, .int a4)]) : W p l e rm_X11_term s m args below meth c H locs 0 0 (QI mwl 27 G below args s Φ) (F0 m 3 ls []) := by
  unfold bd_X11_term_b3 at hq
  refine lv_iload hE.1 hE.2.1 dX11_term_3 (lv_at hl 4 rfl) ?_
  refine lv_aload_n hE.1 hE.2.1 dX11_term_5 rfl (lv_at hl 0 rfl) ?_
  refine mgf_X11_140 hE hw dX11_term_6 ?_
  refine lv_icmp_ge (tgt := 60) hE.1 hE.2.1 dX11_term_9 (by decide) (fun c1 => ?_) (fun c1 => ?_)
  · have hq := hq.1 c1
    exact tb_X11_term_b60 hE hml hr hlk  hq hw (lv_sub hl [0, 1, 2, 3] rfl)
  · have hq := hq.2 c1
    refine lv_iload_n hE.1 hE.2.1 dX11_term_12 rfl (lv_at hl 1 rfl) ?_
    refine lv_bipush (v := (35 : Int32)) hE.1 hE.2.1 dX11_term_13 (by decide) ?_
    refine lv_icmp_eq (tgt := 60) hE.1 hE.2.1 dX11_term_15 (by decide) (fun c2 => ?_) (fun c2 => ?_)
    · have hq := hq.1 c2
      exact tb_X11_term_b60 hE hml hr hlk  hq hw (lv_sub hl [0, 1, 2, 3] rfl)
    · have hq := hq.2 c2
      refine lv_aload_n hE.1 hE.2.1 dX11_term_18 rfl (lv_at hl 0 rfl) ?_
      refine mgf_X11_59 hE hw dX11_term_19 ?_
      refine lv_iload hE.1 hE.2.1 dX11_term_22 (lv_at hl 4 rfl) ?_
      obtain ⟨hi3, hq⟩ := hq
      refine mal_17 hE hw hi3 dX11_term_24 ?_
      refine lv_iload_n hE.1 hE.2.1 dX11_term_25 rfl (lv_at hl 1 rfl) ?_
      refine lv_icmp_ne (tgt := 54) hE.1 hE.2.1 dX11_term_26 (by decide) (fun c4 => ?_) (fun c4 => ?_)
      · have hq := hq.2 c4
        obtain ⟨x5, ex5⟩ : ∃ y : Int32, y = a4 + 1 := ⟨_, rfl⟩
        have hq := hq x5 ex5
        refine lv_iinc (v := x5) (lv' := [(4, .int x5), (0, .ref (gAd G 0)), (1, .int a1), (2, .int a2), (3, .int a3)]) hE.1 hE.2.1 dX11_term_54 hl (k := 4) rfl (by rw [ex5]; rfl) (by decide) rfl (fun ls hl => ?_)
        refine lv_goto (tgt := 3) hE.1 hE.2.1 dX11_term_57 (by decide) ?_
        exact hK3 _ _ _ _ _ _ _ _ hq hw (lv_sub hl [1, 2, 3, 4, 0] rfl)
      · have hq := hq.1 c4
        refine lv_aload_n hE.1 hE.2.1 dX11_term_29 rfl (lv_at hl 0 rfl) ?_
        refine mgf_X11_62 hE hw dX11_term_30 ?_
        refine lv_iload hE.1 hE.2.1 dX11_term_33 (lv_at hl 4 rfl) ?_
        obtain ⟨hi6, hq⟩ := hq
        refine mal_18 hE hw hi6 dX11_term_35 ?_
        refine lv_iload_n hE.1 hE.2.1 dX11_term_36 rfl (lv_at hl 2 rfl) ?_
        refine lv_icmp_ne (tgt := 54) hE.1 hE.2.1 dX11_term_37 (by decide) (fun c7 => ?_) (fun c7 => ?_)
        · have hq := hq.2 c7
          obtain ⟨x8, ex8⟩ : ∃ y : Int32, y = a4 + 1 := ⟨_, rfl⟩
          have hq := hq x8 ex8
          refine lv_iinc (v := x8) (lv' := [(4, .int x8), (0, .ref (gAd G 0)), (1, .int a1), (2, .int a2), (3, .int a3)]) hE.1 hE.2.1 dX11_term_54 hl (k := 4) rfl (by rw [ex8]; rfl) (by decide) rfl (fun ls hl => ?_)
          refine lv_goto (tgt := 3) hE.1 hE.2.1 dX11_term_57 (by decide) ?_
          exact hK3 _ _ _ _ _ _ _ _ hq hw (lv_sub hl [1, 2, 3, 4, 0] rfl)
        · have hq := hq.1 c7
          refine lv_aload_n hE.1 hE.2.1 dX11_term_40 rfl (lv_at hl 0 rfl) ?_
          refine mgf_X11_65 hE hw dX11_term_41 ?_
          refine lv_iload hE.1 hE.2.1 dX11_term_44 (lv_at hl 4 rfl) ?_
          obtain ⟨hi9, hq⟩ := hq
          refine mal_19 hE hw hi9 dX11_term_46 ?_
          refine lv_iload_n hE.1 hE.2.1 dX11_term_47 rfl (lv_at hl 3 rfl) ?_
          refine lv_icmp_ne (tgt := 54) hE.1 hE.2.1 dX11_term_48 (by decide) (fun c10 => ?_) (fun c10 => ?_)
          · have hq := hq.2 c10
            obtain ⟨x11, ex11⟩ : ∃ y : Int32, y = a4 + 1 := ⟨_, rfl⟩
            have hq := hq x11 ex11
            refine lv_iinc (v := x11) (lv' := [(4, .int x11), (0, .ref (gAd G 0)), (1, .int a1), (2, .int a2), (3, .int a3)]) hE.1 hE.2.1 dX11_term_54 hl (k := 4) rfl (by rw [ex11]; rfl) (by decide) rfl (fun ls hl => ?_)
            refine lv_goto (tgt := 3) hE.1 hE.2.1 dX11_term_57 (by decide) ?_
            exact hK3 _ _ _ _ _ _ _ _ hq hw (lv_sub hl [1, 2, 3, 4, 0] rfl)
          · have hq := hq.1 c10
            refine lv_iload hE.1 hE.2.1 dX11_term_51 (lv_at hl 4 rfl) ?_
            exact rtI hE hr hlk hw hq dX11_term_53
theorem tl_X11_term_b3 {p : Program} {l : Launch} {e : Env} {s : State} {m : MethodId} {args : Array Value} {below : List Frame} {meth : Method} {c : Code} {G : GG} {Φ : Int32 → S9 → Prop}  (hE : Ev 27 G p s m args c cX11_term RX11) (hml : c.maxLocals = 5) (hr : meth.sig.returnType = (some .int)) (hlk : meth.locks = false)  : ∀ (n : Nat) (a1 : Int32) (a2 : Int32) (a3 : Int32) (a4 : Int32) (σ : S9) (H : Heap) (locs : List Loc) (ls : Array Slot), lp_X11_term_b3  Φ n a1 a2 a3 a4 σ → Pic mwl 27 G σ s.heap H locs → lv_has ls 5 [(0, .ref (gAd G 0)), (1, .int a1), (2, .int a2), (3, .int a3), (4, .int a4)] → W p l e rm_X11_term s m args below meth c H locs 0 0 (QI mwl 27 G below args s Φ) (F0 m 3 ls []) := by
  intro n
  induction n with
  | zero => intro _ _ _ _ _ _ _ _ hq; exact hq.elim
  | succ n ih => intro _ _ _ _ _ _ _ _ hq hw hl; exact tb_X11_term_b3 hE hml hr hlk  ih hq hw hl
set_option maxRecDepth 20000 in
set_option maxHeartbeats 4000000 in
theorem c_X11_term {G : GG} (hJ : gJ 27 G) (l : Launch) (a1 : Int32) (a2 : Int32) (a3 : Int32) (σ : S9) (Φ : Int32 → S9 → Prop) (hq : wp_X11_term a1 a2 a3 σ Φ) : CI mwl 27 G l yX11_term cX11_term 5 (some .int) rm_X11_term [.ref (gAd G 0), .int a1, .int a2, .int a3] σ Φ := by
  refine CI.intro (by decide) (Nat.le_of_ble_eq_true rfl) hJ ?_
  intro p e s m args below meth c ls hE hml hr hlk hw hl
  have hl : lv_has ls 5 [(0, .ref (gAd G 0)), (1, .int a1), (2, .int a2), (3, .int a3)] := hl
  unfold wp_X11_term at hq
  refine lv_iconst (v := (0 : Int32)) hE.1 hE.2.1 dX11_term_0 (by decide) ?_
  refine lv_topi (fun x1 ex1 => ?_)
  have hq := hq x1 ex1
  refine lv_istore (lv' := [(4, .int x1), (0, .ref (gAd G 0)), (1, .int a1), (2, .int a2), (3, .int a3)]) hE.1 hE.2.1 dX11_term_1 hl (by decide) rfl (fun ls hl => ?_)
  obtain ⟨nn, hq⟩ := hq
  exact tl_X11_term_b3 hE hml hr hlk  nn _ _ _ _ _ _ _ _ hq hw (lv_sub hl [1, 2, 3, 4, 0] rfl)
/-! QueueBenchModel.put(II)V -/
abbrev rm_X11_put : Room := { frames := 1, cells := 0, slots := 0, locals := 24 }
def wp_X11_put_b45  (Φ : S9 → Prop) (a1 : Int32) (a2 : Int32) (σ : S9) : Prop := wp_X11_term a1 a2 (0 : Int32) σ (fun r1 σ1 => vp_in (σ.1 15) 400 ∧ ∀ σ2 : S9, σ2 = sA σ1 19 (upd (σ1.2.1 19) ((σ.1 15)).toNatClampNeg r1) → ∀ σ3 : S9, σ3 = sF σ2 15 ((σ2.1 15) + (1 : Int32)) → Φ σ3)
def wp_X11_put_b84  (Φ : S9 → Prop) (a1 : Int32) (σ : S9) : Prop := vp_in ((σ.1 15) - (1 : Int32)) 400 ∧ wp_X11_term a1 (σ.2.1 19 (((σ.1 15) - (1 : Int32))).toNatClampNeg) (0 : Int32) σ (fun r2 σ1 => vp_in ((σ.1 15) - (1 : Int32)) 400 ∧ ∀ σ2 : S9, σ2 = sA σ1 19 (upd (σ1.2.1 19) (((σ.1 15) - (1 : Int32))).toNatClampNeg r2) → Φ σ2)
def wp_X11_put (a1 : Int32) (a2 : Int32) (σ : S9) (Φ : S9 → Prop) : Prop := vp_in (σ.1 12) 3002 ∧ ∀ σ1 : S9, σ1 = sA σ 12 (upd (σ.2.1 12) ((σ.1 12)).toNatClampNeg a1) → vp_in (σ1.1 12) 3002 ∧ ∀ σ2 : S9, σ2 = sA σ1 13 (upd (σ1.2.1 13) ((σ1.1 12)).toNatClampNeg a2) → ∀ σ3 : S9, σ3 = sF σ2 12 ((σ2.1 12) + (1 : Int32)) → (a1 = 0 → wp_X11_put_b45  Φ a1 a2 σ3) ∧ (¬ a1 = 0 → (a1 = (1 : Int32) → wp_X11_put_b45  Φ a1 a2 σ3) ∧ (¬ a1 = (1 : Int32) → (a1 = (35 : Int32) → wp_X11_put_b45  Φ a1 a2 σ3) ∧ (¬ a1 = (35 : Int32) → (a1 = (2 : Int32) → wp_X11_put_b84  Φ a1 σ3) ∧ (¬ a1 = (2 : Int32) → (a1 = (3 : Int32) → wp_X11_put_b84  Φ a1 σ3) ∧ (¬ a1 = (3 : Int32) → ∀ σ4 : S9, σ4 = sF σ3 15 ((σ3.1 15) - (1 : Int32)) → vp_in ((σ4.1 15) - (1 : Int32)) 400 ∧ vp_in (σ4.1 15) 400 ∧ wp_X11_term a1 (σ4.2.1 19 (((σ4.1 15) - (1 : Int32))).toNatClampNeg) (σ4.2.1 19 ((σ4.1 15)).toNatClampNeg) σ4 (fun r10 σ5 => vp_in ((σ4.1 15) - (1 : Int32)) 400 ∧ ∀ σ6 : S9, σ6 = sA σ5 19 (upd (σ5.2.1 19) (((σ4.1 15) - (1 : Int32))).toNatClampNeg r10) → Φ σ6))))))
theorem dX11_put_0 : decode cX11_put 0 = .ok (.aload_n 0, 1) := by decide +kernel
theorem dX11_put_1 : decode cX11_put 1 = .ok (.getfield 46, 3) := by decide +kernel
theorem dX11_put_4 : decode cX11_put 4 = .ok (.aload_n 0, 1) := by decide +kernel
theorem dX11_put_5 : decode cX11_put 5 = .ok (.getfield 137, 3) := by decide +kernel
theorem dX11_put_8 : decode cX11_put 8 = .ok (.iload_n 1, 1) := by decide +kernel
theorem dX11_put_9 : decode cX11_put 9 = .ok (.iastore, 1) := by decide +kernel
theorem dX11_put_10 : decode cX11_put 10 = .ok (.aload_n 0, 1) := by decide +kernel
theorem dX11_put_11 : decode cX11_put 11 = .ok (.getfield 49, 3) := by decide +kernel
theorem dX11_put_14 : decode cX11_put 14 = .ok (.aload_n 0, 1) := by decide +kernel
theorem dX11_put_15 : decode cX11_put 15 = .ok (.getfield 137, 3) := by decide +kernel
theorem dX11_put_18 : decode cX11_put 18 = .ok (.iload_n 2, 1) := by decide +kernel
theorem dX11_put_19 : decode cX11_put 19 = .ok (.iastore, 1) := by decide +kernel
theorem dX11_put_20 : decode cX11_put 20 = .ok (.aload_n 0, 1) := by decide +kernel
theorem dX11_put_21 : decode cX11_put 21 = .ok (.dup, 1) := by decide +kernel
theorem dX11_put_22 : decode cX11_put 22 = .ok (.getfield 137, 3) := by decide +kernel
theorem dX11_put_25 : decode cX11_put 25 = .ok (.iconst 1, 1) := by decide +kernel
theorem dX11_put_26 : decode cX11_put 26 = .ok (.iadd, 1) := by decide +kernel
theorem dX11_put_27 : decode cX11_put 27 = .ok (.putfield 137, 3) := by decide +kernel
theorem dX11_put_30 : decode cX11_put 30 = .ok (.iload_n 1, 1) := by decide +kernel
theorem dX11_put_31 : decode cX11_put 31 = .ok (.ifCond .eq 14, 3) := by decide +kernel
theorem dX11_put_34 : decode cX11_put 34 = .ok (.iload_n 1, 1) := by decide +kernel
theorem dX11_put_35 : decode cX11_put 35 = .ok (.iconst 1, 1) := by decide +kernel
theorem dX11_put_36 : decode cX11_put 36 = .ok (.if_icmp .eq 9, 3) := by decide +kernel
theorem dX11_put_39 : decode cX11_put 39 = .ok (.iload_n 1, 1) := by decide +kernel
theorem dX11_put_40 : decode cX11_put 40 = .ok (.bipush 35, 2) := by decide +kernel
theorem dX11_put_42 : decode cX11_put 42 = .ok (.if_icmp .ne 32, 3) := by decide +kernel
theorem dX11_put_45 : decode cX11_put 45 = .ok (.aload_n 0, 1) := by decide +kernel
theorem dX11_put_46 : decode cX11_put 46 = .ok (.getfield 68, 3) := by decide +kernel
theorem dX11_put_49 : decode cX11_put 49 = .ok (.aload_n 0, 1) := by decide +kernel
theorem dX11_put_50 : decode cX11_put 50 = .ok (.getfield 143, 3) := by decide +kernel
theorem dX11_put_53 : decode cX11_put 53 = .ok (.aload_n 0, 1) := by decide +kernel
theorem dX11_put_54 : decode cX11_put 54 = .ok (.iload_n 1, 1) := by decide +kernel
theorem dX11_put_55 : decode cX11_put 55 = .ok (.iload_n 2, 1) := by decide +kernel
theorem dX11_put_56 : decode cX11_put 56 = .ok (.iconst 0, 1) := by decide +kernel
theorem dX11_put_57 : decode cX11_put 57 = .ok (.invokevirtual 146, 3) := by decide +kernel
theorem dX11_put_60 : decode cX11_put 60 = .ok (.iastore, 1) := by decide +kernel
theorem dX11_put_61 : decode cX11_put 61 = .ok (.aload_n 0, 1) := by decide +kernel
theorem dX11_put_62 : decode cX11_put 62 = .ok (.dup, 1) := by decide +kernel
theorem dX11_put_63 : decode cX11_put 63 = .ok (.getfield 143, 3) := by decide +kernel
theorem dX11_put_66 : decode cX11_put 66 = .ok (.iconst 1, 1) := by decide +kernel
theorem dX11_put_67 : decode cX11_put 67 = .ok (.iadd, 1) := by decide +kernel
theorem dX11_put_68 : decode cX11_put 68 = .ok (.putfield 143, 3) := by decide +kernel
theorem dX11_put_71 : decode cX11_put 71 = .ok (.goto 90, 3) := by decide +kernel
theorem dX11_put_74 : decode cX11_put 74 = .ok (.iload_n 1, 1) := by decide +kernel
theorem dX11_put_75 : decode cX11_put 75 = .ok (.iconst 2, 1) := by decide +kernel
theorem dX11_put_76 : decode cX11_put 76 = .ok (.if_icmp .eq 8, 3) := by decide +kernel
theorem dX11_put_79 : decode cX11_put 79 = .ok (.iload_n 1, 1) := by decide +kernel
theorem dX11_put_80 : decode cX11_put 80 = .ok (.iconst 3, 1) := by decide +kernel
theorem dX11_put_81 : decode cX11_put 81 = .ok (.if_icmp .ne 34, 3) := by decide +kernel
theorem dX11_put_84 : decode cX11_put 84 = .ok (.aload_n 0, 1) := by decide +kernel
theorem dX11_put_85 : decode cX11_put 85 = .ok (.getfield 68, 3) := by decide +kernel
theorem dX11_put_88 : decode cX11_put 88 = .ok (.aload_n 0, 1) := by decide +kernel
theorem dX11_put_89 : decode cX11_put 89 = .ok (.getfield 143, 3) := by decide +kernel
theorem dX11_put_92 : decode cX11_put 92 = .ok (.iconst 1, 1) := by decide +kernel
theorem dX11_put_93 : decode cX11_put 93 = .ok (.isub, 1) := by decide +kernel
theorem dX11_put_94 : decode cX11_put 94 = .ok (.aload_n 0, 1) := by decide +kernel
theorem dX11_put_95 : decode cX11_put 95 = .ok (.iload_n 1, 1) := by decide +kernel
theorem dX11_put_96 : decode cX11_put 96 = .ok (.aload_n 0, 1) := by decide +kernel
theorem dX11_put_97 : decode cX11_put 97 = .ok (.getfield 68, 3) := by decide +kernel
theorem dX11_put_100 : decode cX11_put 100 = .ok (.aload_n 0, 1) := by decide +kernel
theorem dX11_put_101 : decode cX11_put 101 = .ok (.getfield 143, 3) := by decide +kernel
theorem dX11_put_104 : decode cX11_put 104 = .ok (.iconst 1, 1) := by decide +kernel
theorem dX11_put_105 : decode cX11_put 105 = .ok (.isub, 1) := by decide +kernel
theorem dX11_put_106 : decode cX11_put 106 = .ok (.iaload, 1) := by decide +kernel
theorem dX11_put_107 : decode cX11_put 107 = .ok (.iconst 0, 1) := by decide +kernel
theorem dX11_put_108 : decode cX11_put 108 = .ok (.invokevirtual 146, 3) := by decide +kernel
theorem dX11_put_111 : decode cX11_put 111 = .ok (.iastore, 1) := by decide +kernel
theorem dX11_put_112 : decode cX11_put 112 = .ok (.goto 49, 3) := by decide +kernel
theorem dX11_put_115 : decode cX11_put 115 = .ok (.aload_n 0, 1) := by decide +kernel
theorem dX11_put_116 : decode cX11_put 116 = .ok (.dup, 1) := by decide +kernel
theorem dX11_put_117 : decode cX11_put 117 = .ok (.getfield 143, 3) := by decide +kernel
theorem dX11_put_120 : decode cX11_put 120 = .ok (.iconst 1, 1) := by decide +kernel
theorem dX11_put_121 : decode cX11_put 121 = .ok (.isub, 1) := by decide +kernel
theorem dX11_put_122 : decode cX11_put 122 = .ok (.putfield 143, 3) := by decide +kernel
theorem dX11_put_125 : decode cX11_put 125 = .ok (.aload_n 0, 1) := by decide +kernel
theorem dX11_put_126 : decode cX11_put 126 = .ok (.getfield 68, 3) := by decide +kernel
theorem dX11_put_129 : decode cX11_put 129 = .ok (.aload_n 0, 1) := by decide +kernel
theorem dX11_put_130 : decode cX11_put 130 = .ok (.getfield 143, 3) := by decide +kernel
theorem dX11_put_133 : decode cX11_put 133 = .ok (.iconst 1, 1) := by decide +kernel
theorem dX11_put_134 : decode cX11_put 134 = .ok (.isub, 1) := by decide +kernel
theorem dX11_put_135 : decode cX11_put 135 = .ok (.aload_n 0, 1) := by decide +kernel
theorem dX11_put_136 : decode cX11_put 136 = .ok (.iload_n 1, 1) := by decide +kernel
theorem dX11_put_137 : decode cX11_put 137 = .ok (.aload_n 0, 1) := by decide +kernel
theorem dX11_put_138 : decode cX11_put 138 = .ok (.getfield 68, 3) := by decide +kernel
theorem dX11_put_141 : decode cX11_put 141 = .ok (.aload_n 0, 1) := by decide +kernel
theorem dX11_put_142 : decode cX11_put 142 = .ok (.getfield 143, 3) := by decide +kernel
theorem dX11_put_145 : decode cX11_put 145 = .ok (.iconst 1, 1) := by decide +kernel
theorem dX11_put_146 : decode cX11_put 146 = .ok (.isub, 1) := by decide +kernel
theorem dX11_put_147 : decode cX11_put 147 = .ok (.iaload, 1) := by decide +kernel
theorem dX11_put_148 : decode cX11_put 148 = .ok (.aload_n 0, 1) := by decide +kernel
theorem dX11_put_149 : decode cX11_put 149 = .ok (.getfield 68, 3) := by decide +kernel
theorem dX11_put_152 : decode cX11_put 152 = .ok (.aload_n 0, 1) := by decide +kernel
theorem dX11_put_153 : decode cX11_put 153 = .ok (.getfield 143, 3) := by decide +kernel
theorem dX11_put_156 : decode cX11_put 156 = .ok (.iaload, 1) := by decide +kernel
theorem dX11_put_157 : decode cX11_put 157 = .ok (.invokevirtual 146, 3) := by decide +kernel
theorem dX11_put_160 : decode cX11_put 160 = .ok (.iastore, 1) := by decide +kernel
theorem dX11_put_161 : decode cX11_put 161 = .ok (.return_, 1) := by decide +kernel
set_option maxRecDepth 20000 in
set_option maxHeartbeats 4000000 in
theorem tb_X11_put_b45 {p : Program} {l : Launch} {e : Env} {s : State} {m : MethodId} {args : Array Value} {below : List Frame} {meth : Method} {c : Code} {G : GG} {Φ : S9 → Prop}  (hE : Ev 27 G p s m args c cX11_put RX11) (hml : c.maxLocals = 3) (hr : meth.sig.returnType = none) (hlk : meth.locks = false)  {a1 : Int32} {a2 : Int32} {σ : S9} {H : Heap} {locs : List Loc} {ls : Array Slot} (hq : wp_X11_put_b45  Φ a1 a2 σ) (hw : Pic mwl 27 G σ s.heap H locs) (hl : lv_has ls 3 [(0, .ref (gAd G 0)), (1, .int a1), (2, .int a2)]) : W p l e rm_X11_put s m args below meth c H locs 0 0 (QV mwl 27 G below args s Φ) (F0 m 45 ls []) := by
  unfold wp_X11_put_b45 at hq
  refine lv_aload_n hE.1 hE.2.1 dX11_put_45 rfl (lv_at hl 0 rfl) ?_
  refine mgf_X11_68 hE hw dX11_put_46 ?_
  refine lv_aload_n hE.1 hE.2.1 dX11_put_49 rfl (lv_at hl 0 rfl) ?_
  refine mgf_X11_143 hE hw dX11_put_50 ?_
  refine lv_aload_n hE.1 hE.2.1 dX11_put_53 rfl (lv_at hl 0 rfl) ?_
  refine lv_iload_n hE.1 hE.2.1 dX11_put_54 rfl (lv_at hl 1 rfl) ?_
  refine lv_iload_n hE.1 hE.2.1 dX11_put_55 rfl (lv_at hl 2 rfl) ?_
  refine lv_iconst (v := (0 : Int32)) hE.1 hE.2.1 dX11_put_56 (by decide) ?_
  refine clVi (rest := [.int (σ.1 15), .ref (gAd G 20)]) (As := [.int a1, .int a2, .int (0 : Int32)]) hE hml hl.1 hw (c_X11_term hE.2.2.2.2.2 l _ _ _ _ _ hq) mu85 mu86 mu87 mu88 mu3 rfl (k := 3) (by decide +kernel) (by decide) (ci := 11) rfl (q0 := 0) rfl rfl rfl (Nat.le_of_ble_eq_true rfl) dX11_put_57 (by decide) (fun r1 σ1 hq H locs hw => ?_)
  obtain ⟨hi2, hq⟩ := hq
  refine mas_20 hE hw hi2 dX11_put_60 (fun σ2 eσ2 H locs hw => ?_)
  have hq := hq σ2 eσ2
  refine lv_aload_n hE.1 hE.2.1 dX11_put_61 rfl (lv_at hl 0 rfl) ?_
  refine lv_dup hE.1 hE.2.1 dX11_put_62 rfl ?_
  refine mgf_X11_143 hE hw dX11_put_63 ?_
  refine lv_iconst (v := (1 : Int32)) hE.1 hE.2.1 dX11_put_66 (by decide) ?_
  refine lv_iadd hE.1 hE.2.1 dX11_put_67 ?_
  refine mpf_X11_143 hE hw dX11_put_68 (fun σ3 eσ3 H locs hw => ?_)
  have hq := hq σ3 eσ3
  refine lv_goto (tgt := 161) hE.1 hE.2.1 dX11_put_71 (by decide) ?_
  exact rtV hE hr hlk hw hq dX11_put_161
set_option maxRecDepth 20000 in
set_option maxHeartbeats 4000000 in
theorem tb_X11_put_b84 {p : Program} {l : Launch} {e : Env} {s : State} {m : MethodId} {args : Array Value} {below : List Frame} {meth : Method} {c : Code} {G : GG} {Φ : S9 → Prop}  (hE : Ev 27 G p s m args c cX11_put RX11) (hml : c.maxLocals = 3) (hr : meth.sig.returnType = none) (hlk : meth.locks = false)  {a1 : Int32} {σ : S9} {H : Heap} {locs : List Loc} {ls : Array Slot} (hq : wp_X11_put_b84  Φ a1 σ) (hw : Pic mwl 27 G σ s.heap H locs) (hl : lv_has ls 3 [(0, .ref (gAd G 0)), (1, .int a1)]) : W p l e rm_X11_put s m args below meth c H locs 0 0 (QV mwl 27 G below args s Φ) (F0 m 84 ls []) := by
  unfold wp_X11_put_b84 at hq
  refine lv_aload_n hE.1 hE.2.1 dX11_put_84 rfl (lv_at hl 0 rfl) ?_
  refine mgf_X11_68 hE hw dX11_put_85 ?_
  refine lv_aload_n hE.1 hE.2.1 dX11_put_88 rfl (lv_at hl 0 rfl) ?_
  refine mgf_X11_143 hE hw dX11_put_89 ?_
  refine lv_iconst (v := (1 : Int32)) hE.1 hE.2.1 dX11_put_92 (by decide) ?_
  refine lv_isub hE.1 hE.2.1 dX11_put_93 ?_
  refine lv_aload_n hE.1 hE.2.1 dX11_put_94 rfl (lv_at hl 0 rfl) ?_
  refine lv_iload_n hE.1 hE.2.1 dX11_put_95 rfl (lv_at hl 1 rfl) ?_
  refine lv_aload_n hE.1 hE.2.1 dX11_put_96 rfl (lv_at hl 0 rfl) ?_
  refine mgf_X11_68 hE hw dX11_put_97 ?_
  refine lv_aload_n hE.1 hE.2.1 dX11_put_100 rfl (lv_at hl 0 rfl) ?_
  refine mgf_X11_143 hE hw dX11_put_101 ?_
  refine lv_iconst (v := (1 : Int32)) hE.1 hE.2.1 dX11_put_104 (by decide) ?_
  refine lv_isub hE.1 hE.2.1 dX11_put_105 ?_
  obtain ⟨hi1, hq⟩ := hq
  refine mal_20 hE hw hi1 dX11_put_106 ?_
  refine lv_iconst (v := (0 : Int32)) hE.1 hE.2.1 dX11_put_107 (by decide) ?_
  refine clVi (rest := [.int ((σ.1 15) - (1 : Int32)), .ref (gAd G 20)]) (As := [.int a1, .int (σ.2.1 19 (((σ.1 15) - (1 : Int32))).toNatClampNeg), .int (0 : Int32)]) hE hml hl.1 hw (c_X11_term hE.2.2.2.2.2 l _ _ _ _ _ hq) mu85 mu86 mu87 mu88 mu3 rfl (k := 3) (by decide +kernel) (by decide) (ci := 11) rfl (q0 := 0) rfl rfl rfl (Nat.le_of_ble_eq_true rfl) dX11_put_108 (by decide) (fun r2 σ1 hq H locs hw => ?_)
  obtain ⟨hi3, hq⟩ := hq
  refine mas_20 hE hw hi3 dX11_put_111 (fun σ2 eσ2 H locs hw => ?_)
  have hq := hq σ2 eσ2
  refine lv_goto (tgt := 161) hE.1 hE.2.1 dX11_put_112 (by decide) ?_
  exact rtV hE hr hlk hw hq dX11_put_161
set_option maxRecDepth 20000 in
set_option maxHeartbeats 4000000 in
theorem c_X11_put {G : GG} (hJ : gJ 27 G) (l : Launch) (a1 : Int32) (a2 : Int32) (σ : S9) (Φ : S9 → Prop) (hq : wp_X11_put a1 a2 σ Φ) : CV mwl 27 G l yX11_put cX11_put 3 rm_X11_put [.ref (gAd G 0), .int a1, .int a2] σ Φ := by
  refine CV.intro (by decide) (Nat.le_of_ble_eq_true rfl) hJ ?_
  intro p e s m args below meth c ls hE hml hr hlk hw hl
  have hl : lv_has ls 3 [(0, .ref (gAd G 0)), (1, .int a1), (2, .int a2)] := hl
  unfold wp_X11_put at hq
  refine lv_aload_n hE.1 hE.2.1 dX11_put_0 rfl (lv_at hl 0 rfl) ?_
  refine mgf_X11_46 hE hw dX11_put_1 ?_
  refine lv_aload_n hE.1 hE.2.1 dX11_put_4 rfl (lv_at hl 0 rfl) ?_
  refine mgf_X11_137 hE hw dX11_put_5 ?_
  refine lv_iload_n hE.1 hE.2.1 dX11_put_8 rfl (lv_at hl 1 rfl) ?_
  obtain ⟨hi1, hq⟩ := hq
  refine mas_13 hE hw hi1 dX11_put_9 (fun σ1 eσ1 H locs hw => ?_)
  have hq := hq σ1 eσ1
  refine lv_aload_n hE.1 hE.2.1 dX11_put_10 rfl (lv_at hl 0 rfl) ?_
  refine mgf_X11_49 hE hw dX11_put_11 ?_
  refine lv_aload_n hE.1 hE.2.1 dX11_put_14 rfl (lv_at hl 0 rfl) ?_
  refine mgf_X11_137 hE hw dX11_put_15 ?_
  refine lv_iload_n hE.1 hE.2.1 dX11_put_18 rfl (lv_at hl 2 rfl) ?_
  obtain ⟨hi2, hq⟩ := hq
  refine mas_14 hE hw hi2 dX11_put_19 (fun σ2 eσ2 H locs hw => ?_)
  have hq := hq σ2 eσ2
  refine lv_aload_n hE.1 hE.2.1 dX11_put_20 rfl (lv_at hl 0 rfl) ?_
  refine lv_dup hE.1 hE.2.1 dX11_put_21 rfl ?_
  refine mgf_X11_137 hE hw dX11_put_22 ?_
  refine lv_iconst (v := (1 : Int32)) hE.1 hE.2.1 dX11_put_25 (by decide) ?_
  refine lv_iadd hE.1 hE.2.1 dX11_put_26 ?_
  refine mpf_X11_137 hE hw dX11_put_27 (fun σ3 eσ3 H locs hw => ?_)
  have hq := hq σ3 eσ3
  refine lv_iload_n hE.1 hE.2.1 dX11_put_30 rfl (lv_at hl 1 rfl) ?_
  refine lv_if_eq (tgt := 45) hE.1 hE.2.1 dX11_put_31 (by decide) (fun c3 => ?_) (fun c3 => ?_)
  · have hq := hq.1 c3
    exact tb_X11_put_b45 hE hml hr hlk  hq hw (lv_sub hl [0, 1, 2] rfl)
  · have hq := hq.2 c3
    refine lv_iload_n hE.1 hE.2.1 dX11_put_34 rfl (lv_at hl 1 rfl) ?_
    refine lv_iconst (v := (1 : Int32)) hE.1 hE.2.1 dX11_put_35 (by decide) ?_
    refine lv_icmp_eq (tgt := 45) hE.1 hE.2.1 dX11_put_36 (by decide) (fun c4 => ?_) (fun c4 => ?_)
    · have hq := hq.1 c4
      exact tb_X11_put_b45 hE hml hr hlk  hq hw (lv_sub hl [0, 1, 2] rfl)
    · have hq := hq.2 c4
      refine lv_iload_n hE.1 hE.2.1 dX11_put_39 rfl (lv_at hl 1 rfl) ?_
      refine lv_bipush (v := (35 : Int32)) hE.1 hE.2.1 dX11_put_40 (by decide) ?_
      refine lv_icmp_ne (tgt := 74) hE.1 hE.2.1 dX11_put_42 (by decide) (fun c5 => ?_) (fun c5 => ?_)
      · have hq := hq.2 c5
        refine lv_iload_n hE.1 hE.2.1 dX11_put_74 rfl (lv_at hl 1 rfl) ?_
        refine lv_iconst (v := (2 : Int32)) hE.1 hE.2.1 dX11_put_75 (by decide) ?_
        refine lv_icmp_eq (tgt := 84) hE.1 hE.2.1 dX11_put_76 (by decide) (fun c6 => ?_) (fun c6 => ?_)
        · have hq := hq.1 c6
          exact tb_X11_put_b84 hE hml hr hlk  hq hw (lv_sub hl [0, 1] rfl)
        · have hq := hq.2 c6
          refine lv_iload_n hE.1 hE.2.1 dX11_put_79 rfl (lv_at hl 1 rfl) ?_
          refine lv_iconst (v := (3 : Int32)) hE.1 hE.2.1 dX11_put_80 (by decide) ?_
          refine lv_icmp_ne (tgt := 115) hE.1 hE.2.1 dX11_put_81 (by decide) (fun c7 => ?_) (fun c7 => ?_)
          · have hq := hq.2 c7
            refine lv_aload_n hE.1 hE.2.1 dX11_put_115 rfl (lv_at hl 0 rfl) ?_
            refine lv_dup hE.1 hE.2.1 dX11_put_116 rfl ?_
            refine mgf_X11_143 hE hw dX11_put_117 ?_
            refine lv_iconst (v := (1 : Int32)) hE.1 hE.2.1 dX11_put_120 (by decide) ?_
            refine lv_isub hE.1 hE.2.1 dX11_put_121 ?_
            refine mpf_X11_143 hE hw dX11_put_122 (fun σ4 eσ4 H locs hw => ?_)
            have hq := hq σ4 eσ4
            refine lv_aload_n hE.1 hE.2.1 dX11_put_125 rfl (lv_at hl 0 rfl) ?_
            refine mgf_X11_68 hE hw dX11_put_126 ?_
            refine lv_aload_n hE.1 hE.2.1 dX11_put_129 rfl (lv_at hl 0 rfl) ?_
            refine mgf_X11_143 hE hw dX11_put_130 ?_
            refine lv_iconst (v := (1 : Int32)) hE.1 hE.2.1 dX11_put_133 (by decide) ?_
            refine lv_isub hE.1 hE.2.1 dX11_put_134 ?_
            refine lv_aload_n hE.1 hE.2.1 dX11_put_135 rfl (lv_at hl 0 rfl) ?_
            refine lv_iload_n hE.1 hE.2.1 dX11_put_136 rfl (lv_at hl 1 rfl) ?_
            refine lv_aload_n hE.1 hE.2.1 dX11_put_137 rfl (lv_at hl 0 rfl) ?_
            refine mgf_X11_68 hE hw dX11_put_138 ?_
            refine lv_aload_n hE.1 hE.2.1 dX11_put_141 rfl (lv_at hl 0 rfl) ?_
            refine mgf_X11_143 hE hw dX11_put_142 ?_
            refine lv_iconst (v := (1 : Int32)) hE.1 hE.2.1 dX11_put_145 (by decide) ?_
            refine lv_isub hE.1 hE.2.1 dX11_put_146 ?_
            obtain ⟨hi8, hq⟩ := hq
            refine mal_20 hE hw hi8 dX11_put_147 ?_
            refine lv_aload_n hE.1 hE.2.1 dX11_put_148 rfl (lv_at hl 0 rfl) ?_
            refine mgf_X11_68 hE hw dX11_put_149 ?_
            refine lv_aload_n hE.1 hE.2.1 dX11_put_152 rfl (lv_at hl 0 rfl) ?_
            refine mgf_X11_143 hE hw dX11_put_153 ?_
            obtain ⟨hi9, hq⟩ := hq
            refine mal_20 hE hw hi9 dX11_put_156 ?_
            refine clVi (rest := [.int ((σ4.1 15) - (1 : Int32)), .ref (gAd G 20)]) (As := [.int a1, .int (σ4.2.1 19 (((σ4.1 15) - (1 : Int32))).toNatClampNeg), .int (σ4.2.1 19 ((σ4.1 15)).toNatClampNeg)]) hE hml hl.1 hw (c_X11_term hE.2.2.2.2.2 l _ _ _ _ _ hq) mu85 mu86 mu87 mu88 mu3 rfl (k := 3) (by decide +kernel) (by decide) (ci := 11) rfl (q0 := 0) rfl rfl rfl (Nat.le_of_ble_eq_true rfl) dX11_put_157 (by decide) (fun r10 σ5 hq H locs hw => ?_)
            obtain ⟨hi11, hq⟩ := hq
            refine mas_20 hE hw hi11 dX11_put_160 (fun σ6 eσ6 H locs hw => ?_)
            have hq := hq σ6 eσ6
            exact rtV hE hr hlk hw hq dX11_put_161
          · have hq := hq.1 c7
            exact tb_X11_put_b84 hE hml hr hlk  hq hw (lv_sub hl [0, 1] rfl)
      · have hq := hq.1 c5
        exact tb_X11_put_b45 hE hml hr hlk  hq hw (lv_sub hl [0, 1, 2] rfl)
/-! QueueBenchModel.factor()V -/
abbrev rm_X11_factor : Room := { frames := 2, cells := 0, slots := 0, locals := 46 }
def wp_X11_factor_b61  (Φ : S9 → Prop) (t0 : Int32) (σ : S9) : Prop := vp_in (σ.1 3) 3002 ∧ wp_X11_put t0 (σ.2.1 2 ((σ.1 3)).toNatClampNeg) σ (fun σ1 => ∀ σ2 : S9, σ2 = sF σ1 3 ((σ1.1 3) + (1 : Int32)) → Φ σ2)
def wp_X11_factor_b50  (Φ : S9 → Prop) (a1 : Int32) (σ : S9) : Prop := (a1 = (1 : Int32) → wp_X11_factor_b61  Φ (0 : Int32) σ) ∧ (¬ a1 = (1 : Int32) → wp_X11_factor_b61  Φ (1 : Int32) σ)
def wp_X11_factor_b127  (Φ : S9 → Prop) (a1 : Int32) (σ : S9) : Prop := ∀ σ1 : S9, σ1 = sF σ 3 ((σ.1 3) + (1 : Int32)) → (a1 = (145 : Int32) → wp_X11_come (13 : Int32) (2 : Int32) σ1 (fun σ4 => wp_X11_come (11 : Int32) (0 : Int32) σ4 (fun σ5 => Φ σ5))) ∧ (¬ a1 = (145 : Int32) → wp_X11_come (13 : Int32) (3 : Int32) σ1 (fun σ2 => wp_X11_come (11 : Int32) (0 : Int32) σ2 (fun σ3 => Φ σ3)))
def wp_X11_factor  (σ : S9) (Φ : S9 → Prop) : Prop := vp_in (σ.1 3) 3002 ∧ ∀ x2 : Int32, x2 = (σ.2.1 1 ((σ.1 3)).toNatClampNeg) → ∀ σ1 : S9, σ1 = sF σ 9 ((σ.1 9) + (1 : Int32)) → ((σ1.1 9) ≤ (60 : Int32) → (x2 = (1 : Int32) → wp_X11_factor_b50  Φ x2 σ1) ∧ (¬ x2 = (1 : Int32) → (x2 = (3 : Int32) → wp_X11_factor_b50  Φ x2 σ1) ∧ (¬ x2 = (3 : Int32) → (x2 = (135 : Int32) → wp_X11_put (35 : Int32) (0 : Int32) σ1 (fun σ8 => ∀ σ9 : S9, σ9 = sF σ8 3 ((σ8.1 3) + (1 : Int32)) → Φ σ9)) ∧ (¬ x2 = (135 : Int32) → (x2 = (145 : Int32) → wp_X11_factor_b127  Φ x2 σ1) ∧ (¬ x2 = (145 : Int32) → (x2 = (164 : Int32) → wp_X11_factor_b127  Φ x2 σ1) ∧ (¬ x2 = (164 : Int32) → (x2 = (140 : Int32) → ((20 : Int32) ≤ (σ1.1 7) → wp_X11_fail (σ1.1 3) σ1 (fun σ3 => Φ σ3)) ∧ (¬ (20 : Int32) ≤ (σ1.1 7) → ∀ σ4 : S9, σ4 = sF σ1 7 ((σ1.1 7) + (1 : Int32)) → ∀ σ5 : S9, σ5 = sF σ4 3 ((σ4.1 3) + (1 : Int32)) → wp_X11_come (12 : Int32) (0 : Int32) σ5 (fun σ6 => wp_X11_come (5 : Int32) (0 : Int32) σ6 (fun σ7 => Φ σ7)))) ∧ (¬ x2 = (140 : Int32) → wp_X11_fail (σ1.1 3) σ1 (fun σ2 => Φ σ2)))))))) ∧ (¬ (σ1.1 9) ≤ (60 : Int32) → wp_X11_fail (σ1.1 3) σ1 (fun σ10 => Φ σ10))
theorem dX11_factor_0 : decode cX11_factor 0 = .ok (.aload_n 0, 1) := by decide +kernel
theorem dX11_factor_1 : decode cX11_factor 1 = .ok (.getfield 13, 3) := by decide +kernel
theorem dX11_factor_4 : decode cX11_factor 4 = .ok (.aload_n 0, 1) := by decide +kernel
theorem dX11_factor_5 : decode cX11_factor 5 = .ok (.getfield 125, 3) := by decide +kernel
theorem dX11_factor_8 : decode cX11_factor 8 = .ok (.iaload, 1) := by decide +kernel
theorem dX11_factor_9 : decode cX11_factor 9 = .ok (.istore_n 1, 1) := by decide +kernel
theorem dX11_factor_10 : decode cX11_factor 10 = .ok (.aload_n 0, 1) := by decide +kernel
theorem dX11_factor_11 : decode cX11_factor 11 = .ok (.dup, 1) := by decide +kernel
theorem dX11_factor_12 : decode cX11_factor 12 = .ok (.getfield 156, 3) := by decide +kernel
theorem dX11_factor_15 : decode cX11_factor 15 = .ok (.iconst 1, 1) := by decide +kernel
theorem dX11_factor_16 : decode cX11_factor 16 = .ok (.iadd, 1) := by decide +kernel
theorem dX11_factor_17 : decode cX11_factor 17 = .ok (.putfield 156, 3) := by decide +kernel
theorem dX11_factor_20 : decode cX11_factor 20 = .ok (.aload_n 0, 1) := by decide +kernel
theorem dX11_factor_21 : decode cX11_factor 21 = .ok (.getfield 156, 3) := by decide +kernel
theorem dX11_factor_24 : decode cX11_factor 24 = .ok (.bipush 60, 2) := by decide +kernel
theorem dX11_factor_26 : decode cX11_factor 26 = .ok (.if_icmp .le 14, 3) := by decide +kernel
theorem dX11_factor_29 : decode cX11_factor 29 = .ok (.aload_n 0, 1) := by decide +kernel
theorem dX11_factor_30 : decode cX11_factor 30 = .ok (.aload_n 0, 1) := by decide +kernel
theorem dX11_factor_31 : decode cX11_factor 31 = .ok (.getfield 125, 3) := by decide +kernel
theorem dX11_factor_34 : decode cX11_factor 34 = .ok (.invokevirtual 153, 3) := by decide +kernel
theorem dX11_factor_37 : decode cX11_factor 37 = .ok (.goto 188, 3) := by decide +kernel
theorem dX11_factor_40 : decode cX11_factor 40 = .ok (.iload_n 1, 1) := by decide +kernel
theorem dX11_factor_41 : decode cX11_factor 41 = .ok (.iconst 1, 1) := by decide +kernel
theorem dX11_factor_42 : decode cX11_factor 42 = .ok (.if_icmp .eq 8, 3) := by decide +kernel
theorem dX11_factor_45 : decode cX11_factor 45 = .ok (.iload_n 1, 1) := by decide +kernel
theorem dX11_factor_46 : decode cX11_factor 46 = .ok (.iconst 3, 1) := by decide +kernel
theorem dX11_factor_47 : decode cX11_factor 47 = .ok (.if_icmp .ne 39, 3) := by decide +kernel
theorem dX11_factor_50 : decode cX11_factor 50 = .ok (.aload_n 0, 1) := by decide +kernel
theorem dX11_factor_51 : decode cX11_factor 51 = .ok (.iload_n 1, 1) := by decide +kernel
theorem dX11_factor_52 : decode cX11_factor 52 = .ok (.iconst 1, 1) := by decide +kernel
theorem dX11_factor_53 : decode cX11_factor 53 = .ok (.if_icmp .ne 7, 3) := by decide +kernel
theorem dX11_factor_56 : decode cX11_factor 56 = .ok (.iconst 0, 1) := by decide +kernel
theorem dX11_factor_57 : decode cX11_factor 57 = .ok (.goto 4, 3) := by decide +kernel
theorem dX11_factor_60 : decode cX11_factor 60 = .ok (.iconst 1, 1) := by decide +kernel
theorem dX11_factor_61 : decode cX11_factor 61 = .ok (.aload_n 0, 1) := by decide +kernel
theorem dX11_factor_62 : decode cX11_factor 62 = .ok (.getfield 16, 3) := by decide +kernel
theorem dX11_factor_65 : decode cX11_factor 65 = .ok (.aload_n 0, 1) := by decide +kernel
theorem dX11_factor_66 : decode cX11_factor 66 = .ok (.getfield 125, 3) := by decide +kernel
theorem dX11_factor_69 : decode cX11_factor 69 = .ok (.iaload, 1) := by decide +kernel
theorem dX11_factor_70 : decode cX11_factor 70 = .ok (.invokevirtual 169, 3) := by decide +kernel
theorem dX11_factor_73 : decode cX11_factor 73 = .ok (.aload_n 0, 1) := by decide +kernel
theorem dX11_factor_74 : decode cX11_factor 74 = .ok (.dup, 1) := by decide +kernel
theorem dX11_factor_75 : decode cX11_factor 75 = .ok (.getfield 125, 3) := by decide +kernel
theorem dX11_factor_78 : decode cX11_factor 78 = .ok (.iconst 1, 1) := by decide +kernel
theorem dX11_factor_79 : decode cX11_factor 79 = .ok (.iadd, 1) := by decide +kernel
theorem dX11_factor_80 : decode cX11_factor 80 = .ok (.putfield 125, 3) := by decide +kernel
theorem dX11_factor_83 : decode cX11_factor 83 = .ok (.goto 142, 3) := by decide +kernel
theorem dX11_factor_86 : decode cX11_factor 86 = .ok (.iload_n 1, 1) := by decide +kernel
theorem dX11_factor_87 : decode cX11_factor 87 = .ok (.sipush 135, 3) := by decide +kernel
theorem dX11_factor_90 : decode cX11_factor 90 = .ok (.if_icmp .ne 23, 3) := by decide +kernel
theorem dX11_factor_93 : decode cX11_factor 93 = .ok (.aload_n 0, 1) := by decide +kernel
theorem dX11_factor_94 : decode cX11_factor 94 = .ok (.bipush 35, 2) := by decide +kernel
theorem dX11_factor_96 : decode cX11_factor 96 = .ok (.iconst 0, 1) := by decide +kernel
theorem dX11_factor_97 : decode cX11_factor 97 = .ok (.invokevirtual 169, 3) := by decide +kernel
theorem dX11_factor_100 : decode cX11_factor 100 = .ok (.aload_n 0, 1) := by decide +kernel
theorem dX11_factor_101 : decode cX11_factor 101 = .ok (.dup, 1) := by decide +kernel
theorem dX11_factor_102 : decode cX11_factor 102 = .ok (.getfield 125, 3) := by decide +kernel
theorem dX11_factor_105 : decode cX11_factor 105 = .ok (.iconst 1, 1) := by decide +kernel
theorem dX11_factor_106 : decode cX11_factor 106 = .ok (.iadd, 1) := by decide +kernel
theorem dX11_factor_107 : decode cX11_factor 107 = .ok (.putfield 125, 3) := by decide +kernel
theorem dX11_factor_110 : decode cX11_factor 110 = .ok (.goto 115, 3) := by decide +kernel
theorem dX11_factor_113 : decode cX11_factor 113 = .ok (.iload_n 1, 1) := by decide +kernel
theorem dX11_factor_114 : decode cX11_factor 114 = .ok (.sipush 145, 3) := by decide +kernel
theorem dX11_factor_117 : decode cX11_factor 117 = .ok (.if_icmp .eq 10, 3) := by decide +kernel
theorem dX11_factor_120 : decode cX11_factor 120 = .ok (.iload_n 1, 1) := by decide +kernel
theorem dX11_factor_121 : decode cX11_factor 121 = .ok (.sipush 164, 3) := by decide +kernel
theorem dX11_factor_124 : decode cX11_factor 124 = .ok (.if_icmp .ne 41, 3) := by decide +kernel
theorem dX11_factor_127 : decode cX11_factor 127 = .ok (.aload_n 0, 1) := by decide +kernel
theorem dX11_factor_128 : decode cX11_factor 128 = .ok (.dup, 1) := by decide +kernel
theorem dX11_factor_129 : decode cX11_factor 129 = .ok (.getfield 125, 3) := by decide +kernel
theorem dX11_factor_132 : decode cX11_factor 132 = .ok (.iconst 1, 1) := by decide +kernel
theorem dX11_factor_133 : decode cX11_factor 133 = .ok (.iadd, 1) := by decide +kernel
theorem dX11_factor_134 : decode cX11_factor 134 = .ok (.putfield 125, 3) := by decide +kernel
theorem dX11_factor_137 : decode cX11_factor 137 = .ok (.aload_n 0, 1) := by decide +kernel
theorem dX11_factor_138 : decode cX11_factor 138 = .ok (.bipush 13, 2) := by decide +kernel
theorem dX11_factor_140 : decode cX11_factor 140 = .ok (.iload_n 1, 1) := by decide +kernel
theorem dX11_factor_141 : decode cX11_factor 141 = .ok (.sipush 145, 3) := by decide +kernel
theorem dX11_factor_144 : decode cX11_factor 144 = .ok (.if_icmp .ne 7, 3) := by decide +kernel
theorem dX11_factor_147 : decode cX11_factor 147 = .ok (.iconst 2, 1) := by decide +kernel
theorem dX11_factor_148 : decode cX11_factor 148 = .ok (.goto 4, 3) := by decide +kernel
theorem dX11_factor_151 : decode cX11_factor 151 = .ok (.iconst 3, 1) := by decide +kernel
theorem dX11_factor_152 : decode cX11_factor 152 = .ok (.invokevirtual 162, 3) := by decide +kernel
theorem dX11_factor_155 : decode cX11_factor 155 = .ok (.aload_n 0, 1) := by decide +kernel
theorem dX11_factor_156 : decode cX11_factor 156 = .ok (.bipush 11, 2) := by decide +kernel
theorem dX11_factor_158 : decode cX11_factor 158 = .ok (.iconst 0, 1) := by decide +kernel
theorem dX11_factor_159 : decode cX11_factor 159 = .ok (.invokevirtual 162, 3) := by decide +kernel
theorem dX11_factor_162 : decode cX11_factor 162 = .ok (.goto 63, 3) := by decide +kernel
theorem dX11_factor_165 : decode cX11_factor 165 = .ok (.iload_n 1, 1) := by decide +kernel
theorem dX11_factor_166 : decode cX11_factor 166 = .ok (.sipush 140, 3) := by decide +kernel
theorem dX11_factor_169 : decode cX11_factor 169 = .ok (.if_icmp .ne 48, 3) := by decide +kernel
theorem dX11_factor_172 : decode cX11_factor 172 = .ok (.aload_n 0, 1) := by decide +kernel
theorem dX11_factor_173 : decode cX11_factor 173 = .ok (.getfield 172, 3) := by decide +kernel
theorem dX11_factor_176 : decode cX11_factor 176 = .ok (.bipush 20, 2) := by decide +kernel
theorem dX11_factor_178 : decode cX11_factor 178 = .ok (.if_icmp .ge 39, 3) := by decide +kernel
theorem dX11_factor_181 : decode cX11_factor 181 = .ok (.aload_n 0, 1) := by decide +kernel
theorem dX11_factor_182 : decode cX11_factor 182 = .ok (.dup, 1) := by decide +kernel
theorem dX11_factor_183 : decode cX11_factor 183 = .ok (.getfield 172, 3) := by decide +kernel
theorem dX11_factor_186 : decode cX11_factor 186 = .ok (.iconst 1, 1) := by decide +kernel
theorem dX11_factor_187 : decode cX11_factor 187 = .ok (.iadd, 1) := by decide +kernel
theorem dX11_factor_188 : decode cX11_factor 188 = .ok (.putfield 172, 3) := by decide +kernel
theorem dX11_factor_191 : decode cX11_factor 191 = .ok (.aload_n 0, 1) := by decide +kernel
theorem dX11_factor_192 : decode cX11_factor 192 = .ok (.dup, 1) := by decide +kernel
theorem dX11_factor_193 : decode cX11_factor 193 = .ok (.getfield 125, 3) := by decide +kernel
theorem dX11_factor_196 : decode cX11_factor 196 = .ok (.iconst 1, 1) := by decide +kernel
theorem dX11_factor_197 : decode cX11_factor 197 = .ok (.iadd, 1) := by decide +kernel
theorem dX11_factor_198 : decode cX11_factor 198 = .ok (.putfield 125, 3) := by decide +kernel
theorem dX11_factor_201 : decode cX11_factor 201 = .ok (.aload_n 0, 1) := by decide +kernel
theorem dX11_factor_202 : decode cX11_factor 202 = .ok (.bipush 12, 2) := by decide +kernel
theorem dX11_factor_204 : decode cX11_factor 204 = .ok (.iconst 0, 1) := by decide +kernel
theorem dX11_factor_205 : decode cX11_factor 205 = .ok (.invokevirtual 162, 3) := by decide +kernel
theorem dX11_factor_208 : decode cX11_factor 208 = .ok (.aload_n 0, 1) := by decide +kernel
theorem dX11_factor_209 : decode cX11_factor 209 = .ok (.iconst 5, 1) := by decide +kernel
theorem dX11_factor_210 : decode cX11_factor 210 = .ok (.iconst 0, 1) := by decide +kernel
theorem dX11_factor_211 : decode cX11_factor 211 = .ok (.invokevirtual 162, 3) := by decide +kernel
theorem dX11_factor_214 : decode cX11_factor 214 = .ok (.goto 11, 3) := by decide +kernel
theorem dX11_factor_217 : decode cX11_factor 217 = .ok (.aload_n 0, 1) := by decide +kernel
theorem dX11_factor_218 : decode cX11_factor 218 = .ok (.aload_n 0, 1) := by decide +kernel
theorem dX11_factor_219 : decode cX11_factor 219 = .ok (.getfield 125, 3) := by decide +kernel
theorem dX11_factor_222 : decode cX11_factor 222 = .ok (.invokevirtual 153, 3) := by decide +kernel
theorem dX11_factor_225 : decode cX11_factor 225 = .ok (.return_, 1) := by decide +kernel
set_option maxRecDepth 20000 in
set_option maxHeartbeats 4000000 in
theorem tb_X11_factor_b61 {p : Program} {l : Launch} {e : Env} {s : State} {m : MethodId} {args : Array Value} {below : List Frame} {meth : Method} {c : Code} {G : GG} {Φ : S9 → Prop}  (hE : Ev 27 G p s m args c cX11_factor RX11) (hml : c.maxLocals = 2) (hr : meth.sig.returnType = none) (hlk : meth.locks = false)  {t0 : Int32} {σ : S9} {H : Heap} {locs : List Loc} {ls : Array Slot} (hq : wp_X11_factor_b61  Φ t0 σ) (hw : Pic mwl 27 G σ s.heap H locs) (hl : lv_has ls 2 [(0, .ref (gAd G 0))]) : W p l e rm_X11_factor s m args below meth c H locs 0 0 (QV mwl 27 G below args s Φ) (F0 m 61 ls [.int t0, .ref (gAd G 0)]) := by
  unfold wp_X11_factor_b61 at hq
  refine lv_aload_n hE.1 hE.2.1 dX11_factor_61 rfl (lv_at hl 0 rfl) ?_
  refine mgf_X11_16 hE hw dX11_factor_62 ?_
  refine lv_aload_n hE.1 hE.2.1 dX11_factor_65 rfl (lv_at hl 0 rfl) ?_
  refine mgf_X11_125 hE hw dX11_factor_66 ?_
  obtain ⟨hi1, hq⟩ := hq
  refine mal_3 hE hw hi1 dX11_factor_69 ?_
  refine clVv (rest := []) (As := [.int t0, .int (σ.2.1 2 ((σ.1 3)).toNatClampNeg)]) hE hml hl.1 hw (c_X11_put hE.2.2.2.2.2 l _ _ _ _ hq) mu89 mu90 mu91 mu92 mu3 rfl (k := 2) (by decide +kernel) (by decide) (ci := 11) rfl (q0 := 0) rfl rfl rfl (Nat.le_of_ble_eq_true rfl) dX11_factor_70 (by decide) (fun σ1 hq H locs hw => ?_)
  refine lv_aload_n hE.1 hE.2.1 dX11_factor_73 rfl (lv_at hl 0 rfl) ?_
  refine lv_dup hE.1 hE.2.1 dX11_factor_74 rfl ?_
  refine mgf_X11_125 hE hw dX11_factor_75 ?_
  refine lv_iconst (v := (1 : Int32)) hE.1 hE.2.1 dX11_factor_78 (by decide) ?_
  refine lv_iadd hE.1 hE.2.1 dX11_factor_79 ?_
  refine mpf_X11_125 hE hw dX11_factor_80 (fun σ2 eσ2 H locs hw => ?_)
  have hq := hq σ2 eσ2
  refine lv_goto (tgt := 225) hE.1 hE.2.1 dX11_factor_83 (by decide) ?_
  exact rtV hE hr hlk hw hq dX11_factor_225
set_option maxRecDepth 20000 in
set_option maxHeartbeats 4000000 in
theorem tb_X11_factor_b50 {p : Program} {l : Launch} {e : Env} {s : State} {m : MethodId} {args : Array Value} {below : List Frame} {meth : Method} {c : Code} {G : GG} {Φ : S9 → Prop}  (hE : Ev 27 G p s m args c cX11_factor RX11) (hml : c.maxLocals = 2) (hr : meth.sig.returnType = none) (hlk : meth.locks = false)  {a1 : Int32} {σ : S9} {H : Heap} {locs : List Loc} {ls : Array Slot} (hq : wp_X11_factor_b50  Φ a1 σ) (hw : Pic mwl 27 G σ s.heap H locs) (hl : lv_has ls 2 [(0, .ref (gAd G 0)), (1, .int a1)]) : W p l e rm_X11_factor s m args below meth c H locs 0 0 (QV mwl 27 G below args s Φ) (F0 m 50 ls []) := by
  unfold wp_X11_factor_b50 at hq
  refine lv_aload_n hE.1 hE.2.1 dX11_factor_50 rfl (lv_at hl 0 rfl) ?_
  refine lv_iload_n hE.1 hE.2.1 dX11_factor_51 rfl (lv_at hl 1 rfl) ?_
  refine lv_iconst (v := (1 : Int32)) hE.1 hE.2.1 dX11_factor_52 (by decide) ?_
  refine lv_icmp_ne (tgt := 60) hE.1 hE.2.1 dX11_factor_53 (by decide) (fun c1 => ?_) (fun c1 => ?_)
  · have hq := hq.2 c1
    refine lv_iconst (v := (1 : Int32)) hE.1 hE.2.1 dX11_factor_60 (by decide) ?_
    exact tb_X11_factor_b61 hE hml hr hlk  hq hw (lv_sub hl [0] rfl)
  · have hq := hq.1 c1
    refine lv_iconst (v := (0 : Int32)) hE.1 hE.2.1 dX11_factor_56 (by decide) ?_
    refine lv_goto (tgt := 61) hE.1 hE.2.1 dX11_factor_57 (by decide) ?_
    exact tb_X11_factor_b61 hE hml hr hlk  hq hw (lv_sub hl [0] rfl)
set_option maxRecDepth 20000 in
set_option maxHeartbeats 4000000 in
theorem tb_X11_factor_b127 {p : Program} {l : Launch} {e : Env} {s : State} {m : MethodId} {args : Array Value} {below : List Frame} {meth : Method} {c : Code} {G : GG} {Φ : S9 → Prop}  (hE : Ev 27 G p s m args c cX11_factor RX11) (hml : c.maxLocals = 2) (hr : meth.sig.returnType = none) (hlk : meth.locks = false)  {a1 : Int32} {σ : S9} {H : Heap} {locs : List Loc} {ls : Array Slot} (hq : wp_X11_factor_b127  Φ a1 σ) (hw : Pic mwl 27 G σ s.heap H locs) (hl : lv_has ls 2 [(0, .ref (gAd G 0)), (1, .int a1)]) : W p l e rm_X11_factor s m args below meth c H locs 0 0 (QV mwl 27 G below args s Φ) (F0 m 127 ls []) := by
  unfold wp_X11_factor_b127 at hq
  refine lv_aload_n hE.1 hE.2.1 dX11_factor_127 rfl (lv_at hl 0 rfl) ?_
  refine lv_dup hE.1 hE.2.1 dX11_factor_128 rfl ?_
  refine mgf_X11_125 hE hw dX11_factor_129 ?_
  refine lv_iconst (v := (1 : Int32)) hE.1 hE.2.1 dX11_factor_132 (by decide) ?_
  refine lv_iadd hE.1 hE.2.1 dX11_factor_133 ?_
  refine mpf_X11_125 hE hw dX11_factor_134 (fun σ1 eσ1 H locs hw => ?_)
  have hq := hq σ1 eσ1
  refine lv_aload_n hE.1 hE.2.1 dX11_factor_137 rfl (lv_at hl 0 rfl) ?_
  refine lv_bipush (v := (13 : Int32)) hE.1 hE.2.1 dX11_factor_138 (by decide) ?_
  refine lv_iload_n hE.1 hE.2.1 dX11_factor_140 rfl (lv_at hl 1 rfl) ?_
  refine lv_sipush (v := (145 : Int32)) hE.1 hE.2.1 dX11_factor_141 (by decide) ?_
  refine lv_icmp_ne (tgt := 151) hE.1 hE.2.1 dX11_factor_144 (by decide) (fun c1 => ?_) (fun c1 => ?_)
  · have hq := hq.2 c1
    refine lv_iconst (v := (3 : Int32)) hE.1 hE.2.1 dX11_factor_151 (by decide) ?_
    refine clVv (rest := []) (As := [.int (13 : Int32), .int (3 : Int32)]) hE hml hl.1 hw (c_X11_come hE.2.2.2.2.2 l _ _ _ _ hq) mu45 mu46 mu47 mu48 mu3 rfl (k := 2) (by decide +kernel) (by decide) (ci := 11) rfl (q0 := 0) rfl rfl rfl (Nat.le_of_ble_eq_true rfl) dX11_factor_152 (by decide) (fun σ2 hq H locs hw => ?_)
    refine lv_aload_n hE.1 hE.2.1 dX11_factor_155 rfl (lv_at hl 0 rfl) ?_
    refine lv_bipush (v := (11 : Int32)) hE.1 hE.2.1 dX11_factor_156 (by decide) ?_
    refine lv_iconst (v := (0 : Int32)) hE.1 hE.2.1 dX11_factor_158 (by decide) ?_
    refine clVv (rest := []) (As := [.int (11 : Int32), .int (0 : Int32)]) hE hml hl.1 hw (c_X11_come hE.2.2.2.2.2 l _ _ _ _ hq) mu45 mu46 mu47 mu48 mu3 rfl (k := 2) (by decide +kernel) (by decide) (ci := 11) rfl (q0 := 0) rfl rfl rfl (Nat.le_of_ble_eq_true rfl) dX11_factor_159 (by decide) (fun σ3 hq H locs hw => ?_)
    refine lv_goto (tgt := 225) hE.1 hE.2.1 dX11_factor_162 (by decide) ?_
    exact rtV hE hr hlk hw hq dX11_factor_225
  · have hq := hq.1 c1
    refine lv_iconst (v := (2 : Int32)) hE.1 hE.2.1 dX11_factor_147 (by decide) ?_
    refine lv_goto (tgt := 152) hE.1 hE.2.1 dX11_factor_148 (by decide) ?_
    refine clVv (rest := []) (As := [.int (13 : Int32), .int (2 : Int32)]) hE hml hl.1 hw (c_X11_come hE.2.2.2.2.2 l _ _ _ _ hq) mu45 mu46 mu47 mu48 mu3 rfl (k := 2) (by decide +kernel) (by decide) (ci := 11) rfl (q0 := 0) rfl rfl rfl (Nat.le_of_ble_eq_true rfl) dX11_factor_152 (by decide) (fun σ4 hq H locs hw => ?_)
    refine lv_aload_n hE.1 hE.2.1 dX11_factor_155 rfl (lv_at hl 0 rfl) ?_
    refine lv_bipush (v := (11 : Int32)) hE.1 hE.2.1 dX11_factor_156 (by decide) ?_
    refine lv_iconst (v := (0 : Int32)) hE.1 hE.2.1 dX11_factor_158 (by decide) ?_
    refine clVv (rest := []) (As := [.int (11 : Int32), .int (0 : Int32)]) hE hml hl.1 hw (c_X11_come hE.2.2.2.2.2 l _ _ _ _ hq) mu45 mu46 mu47 mu48 mu3 rfl (k := 2) (by decide +kernel) (by decide) (ci := 11) rfl (q0 := 0) rfl rfl rfl (Nat.le_of_ble_eq_true rfl) dX11_factor_159 (by decide) (fun σ5 hq H locs hw => ?_)
    refine lv_goto (tgt := 225) hE.1 hE.2.1 dX11_factor_162 (by decide) ?_
    exact rtV hE hr hlk hw hq dX11_factor_225
set_option maxRecDepth 20000 in
set_option maxHeartbeats 4000000 in
theorem c_X11_factor {G : GG} (hJ : gJ 27 G) (l : Launch)  (σ : S9) (Φ : S9 → Prop) (hq : wp_X11_factor  σ Φ) : CV mwl 27 G l yX11_factor cX11_factor 2 rm_X11_factor [.ref (gAd G 0)] σ Φ := by
  refine CV.intro (by decide) (Nat.le_of_ble_eq_true rfl) hJ ?_
  intro p e s m args below meth c ls hE hml hr hlk hw hl
  have hl : lv_has ls 2 [(0, .ref (gAd G 0))] := hl
  unfold wp_X11_factor at hq
  refine lv_aload_n hE.1 hE.2.1 dX11_factor_0 rfl (lv_at hl 0 rfl) ?_
  refine mgf_X11_13 hE hw dX11_factor_1 ?_
  refine lv_aload_n hE.1 hE.2.1 dX11_factor_4 rfl (lv_at hl 0 rfl) ?_
  refine mgf_X11_125 hE hw dX11_factor_5 ?_
  obtain ⟨hi1, hq⟩ := hq
  refine mal_2 hE hw hi1 dX11_factor_8 ?_
  refine lv_topi (fun x2 ex2 => ?_)
  have hq := hq x2 ex2
  refine lv_istore_n (lv' := [(1, .int x2), (0, .ref (gAd G 0))]) hE.1 hE.2.1 dX11_factor_9 rfl hl (by decide) rfl (fun ls hl => ?_)
  refine lv_aload_n hE.1 hE.2.1 dX11_factor_10 rfl (lv_at hl 1 rfl) ?_
  refine lv_dup hE.1 hE.2.1 dX11_factor_11 rfl ?_
  refine mgf_X11_156 hE hw dX11_factor_12 ?_
  refine lv_iconst (v := (1 : Int32)) hE.1 hE.2.1 dX11_factor_15 (by decide) ?_
  refine lv_iadd hE.1 hE.2.1 dX11_factor_16 ?_
  refine mpf_X11_156 hE hw dX11_factor_17 (fun σ1 eσ1 H locs hw => ?_)
  have hq := hq σ1 eσ1
  refine lv_aload_n hE.1 hE.2.1 dX11_factor_20 rfl (lv_at hl 1 rfl) ?_
  refine mgf_X11_156 hE hw dX11_factor_21 ?_
  refine lv_bipush (v := (60 : Int32)) hE.1 hE.2.1 dX11_factor_24 (by decide) ?_
  refine lv_icmp_le (tgt := 40) hE.1 hE.2.1 dX11_factor_26 (by decide) (fun c3 => ?_) (fun c3 => ?_)
  · have hq := hq.1 c3
    refine lv_iload_n hE.1 hE.2.1 dX11_factor_40 rfl (lv_at hl 0 rfl) ?_
    refine lv_iconst (v := (1 : Int32)) hE.1 hE.2.1 dX11_factor_41 (by decide) ?_
    refine lv_icmp_eq (tgt := 50) hE.1 hE.2.1 dX11_factor_42 (by decide) (fun c4 => ?_) (fun c4 => ?_)
    · have hq := hq.1 c4
      exact tb_X11_factor_b50 hE hml hr hlk  hq hw (lv_sub hl [1, 0] rfl)
    · have hq := hq.2 c4
      refine lv_iload_n hE.1 hE.2.1 dX11_factor_45 rfl (lv_at hl 0 rfl) ?_
      refine lv_iconst (v := (3 : Int32)) hE.1 hE.2.1 dX11_factor_46 (by decide) ?_
      refine lv_icmp_ne (tgt := 86) hE.1 hE.2.1 dX11_factor_47 (by decide) (fun c5 => ?_) (fun c5 => ?_)
      · have hq := hq.2 c5
        refine lv_iload_n hE.1 hE.2.1 dX11_factor_86 rfl (lv_at hl 0 rfl) ?_
        refine lv_sipush (v := (135 : Int32)) hE.1 hE.2.1 dX11_factor_87 (by decide) ?_
        refine lv_icmp_ne (tgt := 113) hE.1 hE.2.1 dX11_factor_90 (by decide) (fun c6 => ?_) (fun c6 => ?_)
        · have hq := hq.2 c6
          refine lv_iload_n hE.1 hE.2.1 dX11_factor_113 rfl (lv_at hl 0 rfl) ?_
          refine lv_sipush (v := (145 : Int32)) hE.1 hE.2.1 dX11_factor_114 (by decide) ?_
          refine lv_icmp_eq (tgt := 127) hE.1 hE.2.1 dX11_factor_117 (by decide) (fun c7 => ?_) (fun c7 => ?_)
          · have hq := hq.1 c7
            exact tb_X11_factor_b127 hE hml hr hlk  hq hw (lv_sub hl [1, 0] rfl)
          · have hq := hq.2 c7
            refine lv_iload_n hE.1 hE.2.1 dX11_factor_120 rfl (lv_at hl 0 rfl) ?_
            refine lv_sipush (v := (164 : Int32)) hE.1 hE.2.1 dX11_factor_121 (by decide) ?_
            refine lv_icmp_ne (tgt := 165) hE.1 hE.2.1 dX11_factor_124 (by decide) (fun c8 => ?_) (fun c8 => ?_)
            · have hq := hq.2 c8
              refine lv_iload_n hE.1 hE.2.1 dX11_factor_165 rfl (lv_at hl 0 rfl) ?_
              refine lv_sipush (v := (140 : Int32)) hE.1 hE.2.1 dX11_factor_166 (by decide) ?_
              refine lv_icmp_ne (tgt := 217) hE.1 hE.2.1 dX11_factor_169 (by decide) (fun c9 => ?_) (fun c9 => ?_)
              · have hq := hq.2 c9
                refine lv_aload_n hE.1 hE.2.1 dX11_factor_217 rfl (lv_at hl 1 rfl) ?_
                refine lv_aload_n hE.1 hE.2.1 dX11_factor_218 rfl (lv_at hl 1 rfl) ?_
                refine mgf_X11_125 hE hw dX11_factor_219 ?_
                refine clVv (rest := []) (As := [.int (σ1.1 3)]) hE hml hl.1 hw (c_X11_fail hE.2.2.2.2.2 l _ _ _ hq) mu64 mu65 mu66 mu67 mu3 rfl (k := 1) (by decide +kernel) (by decide) (ci := 11) rfl (q0 := 0) rfl rfl rfl (Nat.le_of_ble_eq_true rfl) dX11_factor_222 (by decide) (fun σ2 hq H locs hw => ?_)
                exact rtV hE hr hlk hw hq dX11_factor_225
              · have hq := hq.1 c9
                refine lv_aload_n hE.1 hE.2.1 dX11_factor_172 rfl (lv_at hl 1 rfl) ?_
                refine mgf_X11_172 hE hw dX11_factor_173 ?_
                refine lv_bipush (v := (20 : Int32)) hE.1 hE.2.1 dX11_factor_176 (by decide) ?_
                refine lv_icmp_ge (tgt := 217) hE.1 hE.2.1 dX11_factor_178 (by decide) (fun c10 => ?_) (fun c10 => ?_)
                · have hq := hq.1 c10
                  refine lv_aload_n hE.1 hE.2.1 dX11_factor_217 rfl (lv_at hl 1 rfl) ?_
                  refine lv_aload_n hE.1 hE.2.1 dX11_factor_218 rfl (lv_at hl 1 rfl) ?_
                  refine mgf_X11_125 hE hw dX11_factor_219 ?_
                  refine clVv (rest := []) (As := [.int (σ1.1 3)]) hE hml hl.1 hw (c_X11_fail hE.2.2.2.2.2 l _ _ _ hq) mu64 mu65 mu66 mu67 mu3 rfl (k := 1) (by decide +kernel) (by decide) (ci := 11) rfl (q0 := 0) rfl rfl rfl (Nat.le_of_ble_eq_true rfl) dX11_factor_222 (by decide) (fun σ3 hq H locs hw => ?_)
                  exact rtV hE hr hlk hw hq dX11_factor_225
                · have hq := hq.2 c10
                  refine lv_aload_n hE.1 hE.2.1 dX11_factor_181 rfl (lv_at hl 1 rfl) ?_
                  refine lv_dup hE.1 hE.2.1 dX11_factor_182 rfl ?_
                  refine mgf_X11_172 hE hw dX11_factor_183 ?_
                  refine lv_iconst (v := (1 : Int32)) hE.1 hE.2.1 dX11_factor_186 (by decide) ?_
                  refine lv_iadd hE.1 hE.2.1 dX11_factor_187 ?_
                  refine mpf_X11_172 hE hw dX11_factor_188 (fun σ4 eσ4 H locs hw => ?_)
                  have hq := hq σ4 eσ4
                  refine lv_aload_n hE.1 hE.2.1 dX11_factor_191 rfl (lv_at hl 1 rfl) ?_
                  refine lv_dup hE.1 hE.2.1 dX11_factor_192 rfl ?_
                  refine mgf_X11_125 hE hw dX11_factor_193 ?_
                  refine lv_iconst (v := (1 : Int32)) hE.1 hE.2.1 dX11_factor_196 (by decide) ?_
                  refine lv_iadd hE.1 hE.2.1 dX11_factor_197 ?_
                  refine mpf_X11_125 hE hw dX11_factor_198 (fun σ5 eσ5 H locs hw => ?_)
                  have hq := hq σ5 eσ5
                  refine lv_aload_n hE.1 hE.2.1 dX11_factor_201 rfl (lv_at hl 1 rfl) ?_
                  refine lv_bipush (v := (12 : Int32)) hE.1 hE.2.1 dX11_factor_202 (by decide) ?_
                  refine lv_iconst (v := (0 : Int32)) hE.1 hE.2.1 dX11_factor_204 (by decide) ?_
                  refine clVv (rest := []) (As := [.int (12 : Int32), .int (0 : Int32)]) hE hml hl.1 hw (c_X11_come hE.2.2.2.2.2 l _ _ _ _ hq) mu45 mu46 mu47 mu48 mu3 rfl (k := 2) (by decide +kernel) (by decide) (ci := 11) rfl (q0 := 0) rfl rfl rfl (Nat.le_of_ble_eq_true rfl) dX11_factor_205 (by decide) (fun σ6 hq H locs hw => ?_)
                  refine lv_aload_n hE.1 hE.2.1 dX11_factor_208 rfl (lv_at hl 1 rfl) ?_
                  refine lv_iconst (v := (5 : Int32)) hE.1 hE.2.1 dX11_factor_209 (by decide) ?_
                  refine lv_iconst (v := (0 : Int32)) hE.1 hE.2.1 dX11_factor_210 (by decide) ?_
                  refine clVv (rest := []) (As := [.int (5 : Int32), .int (0 : Int32)]) hE hml hl.1 hw (c_X11_come hE.2.2.2.2.2 l _ _ _ _ hq) mu45 mu46 mu47 mu48 mu3 rfl (k := 2) (by decide +kernel) (by decide) (ci := 11) rfl (q0 := 0) rfl rfl rfl (Nat.le_of_ble_eq_true rfl) dX11_factor_211 (by decide) (fun σ7 hq H locs hw => ?_)
                  refine lv_goto (tgt := 225) hE.1 hE.2.1 dX11_factor_214 (by decide) ?_
                  exact rtV hE hr hlk hw hq dX11_factor_225
            · have hq := hq.1 c8
              exact tb_X11_factor_b127 hE hml hr hlk  hq hw (lv_sub hl [1, 0] rfl)
        · have hq := hq.1 c6
          refine lv_aload_n hE.1 hE.2.1 dX11_factor_93 rfl (lv_at hl 1 rfl) ?_
          refine lv_bipush (v := (35 : Int32)) hE.1 hE.2.1 dX11_factor_94 (by decide) ?_
          refine lv_iconst (v := (0 : Int32)) hE.1 hE.2.1 dX11_factor_96 (by decide) ?_
          refine clVv (rest := []) (As := [.int (35 : Int32), .int (0 : Int32)]) hE hml hl.1 hw (c_X11_put hE.2.2.2.2.2 l _ _ _ _ hq) mu89 mu90 mu91 mu92 mu3 rfl (k := 2) (by decide +kernel) (by decide) (ci := 11) rfl (q0 := 0) rfl rfl rfl (Nat.le_of_ble_eq_true rfl) dX11_factor_97 (by decide) (fun σ8 hq H locs hw => ?_)
          refine lv_aload_n hE.1 hE.2.1 dX11_factor_100 rfl (lv_at hl 1 rfl) ?_
          refine lv_dup hE.1 hE.2.1 dX11_factor_101 rfl ?_
          refine mgf_X11_125 hE hw dX11_factor_102 ?_
          refine lv_iconst (v := (1 : Int32)) hE.1 hE.2.1 dX11_factor_105 (by decide) ?_
          refine lv_iadd hE.1 hE.2.1 dX11_factor_106 ?_
          refine mpf_X11_125 hE hw dX11_factor_107 (fun σ9 eσ9 H locs hw => ?_)
          have hq := hq σ9 eσ9
          refine lv_goto (tgt := 225) hE.1 hE.2.1 dX11_factor_110 (by decide) ?_
          exact rtV hE hr hlk hw hq dX11_factor_225
      · have hq := hq.1 c5
        exact tb_X11_factor_b50 hE hml hr hlk  hq hw (lv_sub hl [1, 0] rfl)
  · have hq := hq.2 c3
    refine lv_aload_n hE.1 hE.2.1 dX11_factor_29 rfl (lv_at hl 1 rfl) ?_
    refine lv_aload_n hE.1 hE.2.1 dX11_factor_30 rfl (lv_at hl 1 rfl) ?_
    refine mgf_X11_125 hE hw dX11_factor_31 ?_
    refine clVv (rest := []) (As := [.int (σ1.1 3)]) hE hml hl.1 hw (c_X11_fail hE.2.2.2.2.2 l _ _ _ hq) mu64 mu65 mu66 mu67 mu3 rfl (k := 1) (by decide +kernel) (by decide) (ci := 11) rfl (q0 := 0) rfl rfl rfl (Nat.le_of_ble_eq_true rfl) dX11_factor_34 (by decide) (fun σ10 hq H locs hw => ?_)
    refine lv_goto (tgt := 225) hE.1 hE.2.1 dX11_factor_37 (by decide) ?_
    exact rtV hE hr hlk hw hq dX11_factor_225
/-! QueueBenchModel.doInner(II)V -/
abbrev rm_X11_doInner : Room := { frames := 3, cells := 0, slots := 0, locals := 67 }
def wp_X11_doInner (a1 : Int32) (a2 : Int32) (σ : S9) (Φ : S9 → Prop) : Prop := (a1 = (4 : Int32) → wp_X11_expect (i2c a2) σ (fun σ1 => Φ σ1)) ∧ (¬ a1 = (4 : Int32) → (a1 = (5 : Int32) → wp_X11_come (6 : Int32) (0 : Int32) σ (fun σ2 => wp_X11_come (7 : Int32) (0 : Int32) σ2 (fun σ3 => Φ σ3))) ∧ (¬ a1 = (5 : Int32) → (a1 = (6 : Int32) → wp_X11_sees (60 : Int32) σ (fun r4 σ4 => (r4 = 0 → wp_X11_sees (61 : Int32) σ4 (fun r6 σ6 => (r6 = 0 → wp_X11_joined (0 : Int32) (7 : Int32) (0 : Int32) σ6 (fun σ7 => Φ σ7)) ∧ (¬ r6 = 0 → wp_X11_joined (1 : Int32) (7 : Int32) (0 : Int32) σ6 (fun σ8 => Φ σ8)))) ∧ (¬ r4 = 0 → wp_X11_joined (1 : Int32) (7 : Int32) (0 : Int32) σ4 (fun σ5 => Φ σ5)))) ∧ (¬ a1 = (6 : Int32) → (a1 = (7 : Int32) → wp_X11_come (8 : Int32) (0 : Int32) σ (fun σ9 => wp_X11_come (9 : Int32) (0 : Int32) σ9 (fun σ10 => Φ σ10))) ∧ (¬ a1 = (7 : Int32) → (a1 = (8 : Int32) → wp_X11_sees (43 : Int32) σ (fun r10 σ11 => (r10 = 0 → wp_X11_sees (45 : Int32) σ11 (fun r12 σ13 => (r12 = 0 → wp_X11_joined (0 : Int32) (9 : Int32) (8 : Int32) σ13 (fun σ14 => Φ σ14)) ∧ (¬ r12 = 0 → wp_X11_joined (1 : Int32) (9 : Int32) (8 : Int32) σ13 (fun σ15 => Φ σ15)))) ∧ (¬ r10 = 0 → wp_X11_joined (1 : Int32) (9 : Int32) (8 : Int32) σ11 (fun σ12 => Φ σ12)))) ∧ (¬ a1 = (8 : Int32) → (a1 = (9 : Int32) → wp_X11_come (10 : Int32) (0 : Int32) σ (fun σ16 => wp_X11_come (11 : Int32) (0 : Int32) σ16 (fun σ17 => Φ σ17))) ∧ (¬ a1 = (9 : Int32) → (a1 = (10 : Int32) → wp_X11_sees (42 : Int32) σ (fun r16 σ18 => (r16 = 0 → wp_X11_sees (47 : Int32) σ18 (fun r18 σ20 => (r18 = 0 → wp_X11_sees (37 : Int32) σ20 (fun r20 σ22 => (r20 = 0 → wp_X11_joined (0 : Int32) (11 : Int32) (10 : Int32) σ22 (fun σ23 => Φ σ23)) ∧ (¬ r20 = 0 → wp_X11_joined (1 : Int32) (11 : Int32) (10 : Int32) σ22 (fun σ24 => Φ σ24)))) ∧ (¬ r18 = 0 → wp_X11_joined (1 : Int32) (11 : Int32) (10 : Int32) σ20 (fun σ21 => Φ σ21)))) ∧ (¬ r16 = 0 → wp_X11_joined (1 : Int32) (11 : Int32) (10 : Int32) σ18 (fun σ19 => Φ σ19)))) ∧ (¬ a1 = (10 : Int32) → (a1 = (11 : Int32) → wp_X11_factor σ (fun σ25 => Φ σ25)) ∧ (¬ a1 = (11 : Int32) → (a1 = (12 : Int32) → wp_X11_expect (41 : Int32) σ (fun σ26 => ∀ σ27 : S9, σ27 = sF σ26 7 ((σ26.1 7) - (1 : Int32)) → Φ σ27)) ∧ (¬ a1 = (12 : Int32) → wp_X11_put a2 (0 : Int32) σ (fun σ28 => Φ σ28))))))))))
theorem dX11_doInner_0 : decode cX11_doInner 0 = .ok (.iload_n 1, 1) := by decide +kernel
theorem dX11_doInner_1 : decode cX11_doInner 1 = .ok (.tableswitch 247 4 12 #[51, 60, 77, 110, 127, 161, 178, 221, 228], 51) := by decide +kernel
theorem dX11_doInner_52 : decode cX11_doInner 52 = .ok (.aload_n 0, 1) := by decide +kernel
theorem dX11_doInner_53 : decode cX11_doInner 53 = .ok (.iload_n 2, 1) := by decide +kernel
theorem dX11_doInner_54 : decode cX11_doInner 54 = .ok (.i2c, 1) := by decide +kernel
theorem dX11_doInner_55 : decode cX11_doInner 55 = .ok (.invokevirtual 185, 3) := by decide +kernel
theorem dX11_doInner_58 : decode cX11_doInner 58 = .ok (.goto 196, 3) := by decide +kernel
theorem dX11_doInner_61 : decode cX11_doInner 61 = .ok (.aload_n 0, 1) := by decide +kernel
theorem dX11_doInner_62 : decode cX11_doInner 62 = .ok (.bipush 6, 2) := by decide +kernel
theorem dX11_doInner_64 : decode cX11_doInner 64 = .ok (.iconst 0, 1) := by decide +kernel
theorem dX11_doInner_65 : decode cX11_doInner 65 = .ok (.invokevirtual 162, 3) := by decide +kernel
theorem dX11_doInner_68 : decode cX11_doInner 68 = .ok (.aload_n 0, 1) := by decide +kernel
theorem dX11_doInner_69 : decode cX11_doInner 69 = .ok (.bipush 7, 2) := by decide +kernel
theorem dX11_doInner_71 : decode cX11_doInner 71 = .ok (.iconst 0, 1) := by decide +kernel
theorem dX11_doInner_72 : decode cX11_doInner 72 = .ok (.invokevirtual 162, 3) := by decide +kernel
theorem dX11_doInner_75 : decode cX11_doInner 75 = .ok (.goto 179, 3) := by decide +kernel
theorem dX11_doInner_78 : decode cX11_doInner 78 = .ok (.aload_n 0, 1) := by decide +kernel
theorem dX11_doInner_79 : decode cX11_doInner 79 = .ok (.aload_n 0, 1) := by decide +kernel
theorem dX11_doInner_80 : decode cX11_doInner 80 = .ok (.bipush 60, 2) := by decide +kernel
theorem dX11_doInner_82 : decode cX11_doInner 82 = .ok (.invokevirtual 175, 3) := by decide +kernel
theorem dX11_doInner_85 : decode cX11_doInner 85 = .ok (.ifCond .ne 12, 3) := by decide +kernel
theorem dX11_doInner_88 : decode cX11_doInner 88 = .ok (.aload_n 0, 1) := by decide +kernel
theorem dX11_doInner_89 : decode cX11_doInner 89 = .ok (.bipush 61, 2) := by decide +kernel
theorem dX11_doInner_91 : decode cX11_doInner 91 = .ok (.invokevirtual 175, 3) := by decide +kernel
theorem dX11_doInner_94 : decode cX11_doInner 94 = .ok (.ifCond .eq 7, 3) := by decide +kernel
theorem dX11_doInner_97 : decode cX11_doInner 97 = .ok (.iconst 1, 1) := by decide +kernel
theorem dX11_doInner_98 : decode cX11_doInner 98 = .ok (.goto 4, 3) := by decide +kernel
theorem dX11_doInner_101 : decode cX11_doInner 101 = .ok (.iconst 0, 1) := by decide +kernel
theorem dX11_doInner_102 : decode cX11_doInner 102 = .ok (.bipush 7, 2) := by decide +kernel
theorem dX11_doInner_104 : decode cX11_doInner 104 = .ok (.iconst 0, 1) := by decide +kernel
theorem dX11_doInner_105 : decode cX11_doInner 105 = .ok (.invokevirtual 192, 3) := by decide +kernel
theorem dX11_doInner_108 : decode cX11_doInner 108 = .ok (.goto 146, 3) := by decide +kernel
theorem dX11_doInner_111 : decode cX11_doInner 111 = .ok (.aload_n 0, 1) := by decide +kernel
theorem dX11_doInner_112 : decode cX11_doInner 112 = .ok (.bipush 8, 2) := by decide +kernel
theorem dX11_doInner_114 : decode cX11_doInner 114 = .ok (.iconst 0, 1) := by decide +kernel
theorem dX11_doInner_115 : decode cX11_doInner 115 = .ok (.invokevirtual 162, 3) := by decide +kernel
theorem dX11_doInner_118 : decode cX11_doInner 118 = .ok (.aload_n 0, 1) := by decide +kernel
theorem dX11_doInner_119 : decode cX11_doInner 119 = .ok (.bipush 9, 2) := by decide +kernel
theorem dX11_doInner_121 : decode cX11_doInner 121 = .ok (.iconst 0, 1) := by decide +kernel
theorem dX11_doInner_122 : decode cX11_doInner 122 = .ok (.invokevirtual 162, 3) := by decide +kernel
theorem dX11_doInner_125 : decode cX11_doInner 125 = .ok (.goto 129, 3) := by decide +kernel
theorem dX11_doInner_128 : decode cX11_doInner 128 = .ok (.aload_n 0, 1) := by decide +kernel
theorem dX11_doInner_129 : decode cX11_doInner 129 = .ok (.aload_n 0, 1) := by decide +kernel
theorem dX11_doInner_130 : decode cX11_doInner 130 = .ok (.bipush 43, 2) := by decide +kernel
theorem dX11_doInner_132 : decode cX11_doInner 132 = .ok (.invokevirtual 175, 3) := by decide +kernel
theorem dX11_doInner_135 : decode cX11_doInner 135 = .ok (.ifCond .ne 12, 3) := by decide +kernel
theorem dX11_doInner_138 : decode cX11_doInner 138 = .ok (.aload_n 0, 1) := by decide +kernel
theorem dX11_doInner_139 : decode cX11_doInner 139 = .ok (.bipush 45, 2) := by decide +kernel
theorem dX11_doInner_141 : decode cX11_doInner 141 = .ok (.invokevirtual 175, 3) := by decide +kernel
theorem dX11_doInner_144 : decode cX11_doInner 144 = .ok (.ifCond .eq 7, 3) := by decide +kernel
theorem dX11_doInner_147 : decode cX11_doInner 147 = .ok (.iconst 1, 1) := by decide +kernel
theorem dX11_doInner_148 : decode cX11_doInner 148 = .ok (.goto 4, 3) := by decide +kernel
theorem dX11_doInner_151 : decode cX11_doInner 151 = .ok (.iconst 0, 1) := by decide +kernel
theorem dX11_doInner_152 : decode cX11_doInner 152 = .ok (.bipush 9, 2) := by decide +kernel
theorem dX11_doInner_154 : decode cX11_doInner 154 = .ok (.bipush 8, 2) := by decide +kernel
theorem dX11_doInner_156 : decode cX11_doInner 156 = .ok (.invokevirtual 192, 3) := by decide +kernel
theorem dX11_doInner_159 : decode cX11_doInner 159 = .ok (.goto 95, 3) := by decide +kernel
theorem dX11_doInner_162 : decode cX11_doInner 162 = .ok (.aload_n 0, 1) := by decide +kernel
theorem dX11_doInner_163 : decode cX11_doInner 163 = .ok (.bipush 10, 2) := by decide +kernel
theorem dX11_doInner_165 : decode cX11_doInner 165 = .ok (.iconst 0, 1) := by decide +kernel
theorem dX11_doInner_166 : decode cX11_doInner 166 = .ok (.invokevirtual 162, 3) := by decide +kernel
theorem dX11_doInner_169 : decode cX11_doInner 169 = .ok (.aload_n 0, 1) := by decide +kernel
theorem dX11_doInner_170 : decode cX11_doInner 170 = .ok (.bipush 11, 2) := by decide +kernel
theorem dX11_doInner_172 : decode cX11_doInner 172 = .ok (.iconst 0, 1) := by decide +kernel
theorem dX11_doInner_173 : decode cX11_doInner 173 = .ok (.invokevirtual 162, 3) := by decide +kernel
theorem dX11_doInner_176 : decode cX11_doInner 176 = .ok (.goto 78, 3) := by decide +kernel
theorem dX11_doInner_179 : decode cX11_doInner 179 = .ok (.aload_n 0, 1) := by decide +kernel
theorem dX11_doInner_180 : decode cX11_doInner 180 = .ok (.aload_n 0, 1) := by decide +kernel
theorem dX11_doInner_181 : decode cX11_doInner 181 = .ok (.bipush 42, 2) := by decide +kernel
theorem dX11_doInner_183 : decode cX11_doInner 183 = .ok (.invokevirtual 175, 3) := by decide +kernel
theorem dX11_doInner_186 : decode cX11_doInner 186 = .ok (.ifCond .ne 21, 3) := by decide +kernel
theorem dX11_doInner_189 : decode cX11_doInner 189 = .ok (.aload_n 0, 1) := by decide +kernel
theorem dX11_doInner_190 : decode cX11_doInner 190 = .ok (.bipush 47, 2) := by decide +kernel
theorem dX11_doInner_192 : decode cX11_doInner 192 = .ok (.invokevirtual 175, 3) := by decide +kernel
theorem dX11_doInner_195 : decode cX11_doInner 195 = .ok (.ifCond .ne 12, 3) := by decide +kernel
theorem dX11_doInner_198 : decode cX11_doInner 198 = .ok (.aload_n 0, 1) := by decide +kernel
theorem dX11_doInner_199 : decode cX11_doInner 199 = .ok (.bipush 37, 2) := by decide +kernel
theorem dX11_doInner_201 : decode cX11_doInner 201 = .ok (.invokevirtual 175, 3) := by decide +kernel
theorem dX11_doInner_204 : decode cX11_doInner 204 = .ok (.ifCond .eq 7, 3) := by decide +kernel
theorem dX11_doInner_207 : decode cX11_doInner 207 = .ok (.iconst 1, 1) := by decide +kernel
theorem dX11_doInner_208 : decode cX11_doInner 208 = .ok (.goto 4, 3) := by decide +kernel
theorem dX11_doInner_211 : decode cX11_doInner 211 = .ok (.iconst 0, 1) := by decide +kernel
theorem dX11_doInner_212 : decode cX11_doInner 212 = .ok (.bipush 11, 2) := by decide +kernel
theorem dX11_doInner_214 : decode cX11_doInner 214 = .ok (.bipush 10, 2) := by decide +kernel
theorem dX11_doInner_216 : decode cX11_doInner 216 = .ok (.invokevirtual 192, 3) := by decide +kernel
theorem dX11_doInner_219 : decode cX11_doInner 219 = .ok (.goto 35, 3) := by decide +kernel
theorem dX11_doInner_222 : decode cX11_doInner 222 = .ok (.aload_n 0, 1) := by decide +kernel
theorem dX11_doInner_223 : decode cX11_doInner 223 = .ok (.invokevirtual 196, 3) := by decide +kernel
theorem dX11_doInner_226 : decode cX11_doInner 226 = .ok (.goto 28, 3) := by decide +kernel
theorem dX11_doInner_229 : decode cX11_doInner 229 = .ok (.aload_n 0, 1) := by decide +kernel
theorem dX11_doInner_230 : decode cX11_doInner 230 = .ok (.bipush 41, 2) := by decide +kernel
theorem dX11_doInner_232 : decode cX11_doInner 232 = .ok (.invokevirtual 185, 3) := by decide +kernel
theorem dX11_doInner_235 : decode cX11_doInner 235 = .ok (.aload_n 0, 1) := by decide +kernel
theorem dX11_doInner_236 : decode cX11_doInner 236 = .ok (.dup, 1) := by decide +kernel
theorem dX11_doInner_237 : decode cX11_doInner 237 = .ok (.getfield 172, 3) := by decide +kernel
theorem dX11_doInner_240 : decode cX11_doInner 240 = .ok (.iconst 1, 1) := by decide +kernel
theorem dX11_doInner_241 : decode cX11_doInner 241 = .ok (.isub, 1) := by decide +kernel
theorem dX11_doInner_242 : decode cX11_doInner 242 = .ok (.putfield 172, 3) := by decide +kernel
theorem dX11_doInner_245 : decode cX11_doInner 245 = .ok (.goto 9, 3) := by decide +kernel
theorem dX11_doInner_248 : decode cX11_doInner 248 = .ok (.aload_n 0, 1) := by decide +kernel
theorem dX11_doInner_249 : decode cX11_doInner 249 = .ok (.iload_n 2, 1) := by decide +kernel
theorem dX11_doInner_250 : decode cX11_doInner 250 = .ok (.iconst 0, 1) := by decide +kernel
theorem dX11_doInner_251 : decode cX11_doInner 251 = .ok (.invokevirtual 169, 3) := by decide +kernel
theorem dX11_doInner_254 : decode cX11_doInner 254 = .ok (.return_, 1) := by decide +kernel
set_option maxRecDepth 20000 in
set_option maxHeartbeats 4000000 in
theorem c_X11_doInner {G : GG} (hJ : gJ 27 G) (l : Launch) (a1 : Int32) (a2 : Int32) (σ : S9) (Φ : S9 → Prop) (hq : wp_X11_doInner a1 a2 σ Φ) : CV mwl 27 G l yX11_doInner cX11_doInner 3 rm_X11_doInner [.ref (gAd G 0), .int a1, .int a2] σ Φ := by
  refine CV.intro (by decide) (Nat.le_of_ble_eq_true rfl) hJ ?_
  intro p e s m args below meth c ls hE hml hr hlk hw hl
  have hl : lv_has ls 3 [(0, .ref (gAd G 0)), (1, .int a1), (2, .int a2)] := hl
  unfold wp_X11_doInner at hq
  refine lv_iload_n hE.1 hE.2.1 dX11_doInner_0 rfl (lv_at hl 1 rfl) ?_
  by_cases c1 : a1 = (4 : Int32)
  · have hq := hq.1 c1
    refine lv_tableH (off := 51) (tgt := 52) hE.1 hE.2.1 dX11_doInner_1 c1 (by decide) (by decide) (by decide) (by decide) ?_
    refine lv_aload_n hE.1 hE.2.1 dX11_doInner_52 rfl (lv_at hl 0 rfl) ?_
    refine lv_iload_n hE.1 hE.2.1 dX11_doInner_53 rfl (lv_at hl 2 rfl) ?_
    refine lv_i2c (v := (i2c a2)) hE.1 hE.2.1 dX11_doInner_54 rfl ?_
    refine clVv (rest := []) (As := [.int (i2c a2)]) hE hml hl.1 hw (c_X11_expect hE.2.2.2.2.2 l _ _ _ hq) mu68 mu69 mu70 mu71 mu3 rfl (k := 1) (by decide +kernel) (by decide) (ci := 11) rfl (q0 := 0) rfl rfl rfl (Nat.le_of_ble_eq_true rfl) dX11_doInner_55 (by decide) (fun σ1 hq H locs hw => ?_)
    refine lv_goto (tgt := 254) hE.1 hE.2.1 dX11_doInner_58 (by decide) ?_
    exact rtV hE hr hlk hw hq dX11_doInner_254
  · have hq := hq.2 c1
    by_cases c2 : a1 = (5 : Int32)
    · have hq := hq.1 c2
      refine lv_tableH (off := 60) (tgt := 61) hE.1 hE.2.1 dX11_doInner_1 c2 (by decide) (by decide) (by decide) (by decide) ?_
      refine lv_aload_n hE.1 hE.2.1 dX11_doInner_61 rfl (lv_at hl 0 rfl) ?_
      refine lv_bipush (v := (6 : Int32)) hE.1 hE.2.1 dX11_doInner_62 (by decide) ?_
      refine lv_iconst (v := (0 : Int32)) hE.1 hE.2.1 dX11_doInner_64 (by decide) ?_
      refine clVv (rest := []) (As := [.int (6 : Int32), .int (0 : Int32)]) hE hml hl.1 hw (c_X11_come hE.2.2.2.2.2 l _ _ _ _ hq) mu45 mu46 mu47 mu48 mu3 rfl (k := 2) (by decide +kernel) (by decide) (ci := 11) rfl (q0 := 0) rfl rfl rfl (Nat.le_of_ble_eq_true rfl) dX11_doInner_65 (by decide) (fun σ2 hq H locs hw => ?_)
      refine lv_aload_n hE.1 hE.2.1 dX11_doInner_68 rfl (lv_at hl 0 rfl) ?_
      refine lv_bipush (v := (7 : Int32)) hE.1 hE.2.1 dX11_doInner_69 (by decide) ?_
      refine lv_iconst (v := (0 : Int32)) hE.1 hE.2.1 dX11_doInner_71 (by decide) ?_
      refine clVv (rest := []) (As := [.int (7 : Int32), .int (0 : Int32)]) hE hml hl.1 hw (c_X11_come hE.2.2.2.2.2 l _ _ _ _ hq) mu45 mu46 mu47 mu48 mu3 rfl (k := 2) (by decide +kernel) (by decide) (ci := 11) rfl (q0 := 0) rfl rfl rfl (Nat.le_of_ble_eq_true rfl) dX11_doInner_72 (by decide) (fun σ3 hq H locs hw => ?_)
      refine lv_goto (tgt := 254) hE.1 hE.2.1 dX11_doInner_75 (by decide) ?_
      exact rtV hE hr hlk hw hq dX11_doInner_254
    · have hq := hq.2 c2
      by_cases c3 : a1 = (6 : Int32)
      · have hq := hq.1 c3
        refine lv_tableH (off := 77) (tgt := 78) hE.1 hE.2.1 dX11_doInner_1 c3 (by decide) (by decide) (by decide) (by decide) ?_
        refine lv_aload_n hE.1 hE.2.1 dX11_doInner_78 rfl (lv_at hl 0 rfl) ?_
        refine lv_aload_n hE.1 hE.2.1 dX11_doInner_79 rfl (lv_at hl 0 rfl) ?_
        refine lv_bipush (v := (60 : Int32)) hE.1 hE.2.1 dX11_doInner_80 (by decide) ?_
        refine clVi (rest := [.ref (gAd G 0)]) (As := [.int (60 : Int32)]) hE hml hl.1 hw (c_X11_sees hE.2.2.2.2.2 l _ _ _ hq) mu60 mu61 mu62 mu63 mu3 rfl (k := 1) (by decide +kernel) (by decide) (ci := 11) rfl (q0 := 0) rfl rfl rfl (Nat.le_of_ble_eq_true rfl) dX11_doInner_82 (by decide) (fun r4 σ4 hq H locs hw => ?_)
        refine lv_if_ne (tgt := 97) hE.1 hE.2.1 dX11_doInner_85 (by decide) (fun c5 => ?_) (fun c5 => ?_)
        · have hq := hq.2 c5
          refine lv_iconst (v := (1 : Int32)) hE.1 hE.2.1 dX11_doInner_97 (by decide) ?_
          refine lv_goto (tgt := 102) hE.1 hE.2.1 dX11_doInner_98 (by decide) ?_
          refine lv_bipush (v := (7 : Int32)) hE.1 hE.2.1 dX11_doInner_102 (by decide) ?_
          refine lv_iconst (v := (0 : Int32)) hE.1 hE.2.1 dX11_doInner_104 (by decide) ?_
          refine clVv (rest := []) (As := [.int (1 : Int32), .int (7 : Int32), .int (0 : Int32)]) hE hml hl.1 hw (c_X11_joined hE.2.2.2.2.2 l _ _ _ _ _ hq) mu72 mu73 mu74 mu75 mu3 rfl (k := 3) (by decide +kernel) (by decide) (ci := 11) rfl (q0 := 0) rfl rfl rfl (Nat.le_of_ble_eq_true rfl) dX11_doInner_105 (by decide) (fun σ5 hq H locs hw => ?_)
          refine lv_goto (tgt := 254) hE.1 hE.2.1 dX11_doInner_108 (by decide) ?_
          exact rtV hE hr hlk hw hq dX11_doInner_254
        · have hq := hq.1 c5
          refine lv_aload_n hE.1 hE.2.1 dX11_doInner_88 rfl (lv_at hl 0 rfl) ?_
          refine lv_bipush (v := (61 : Int32)) hE.1 hE.2.1 dX11_doInner_89 (by decide) ?_
          refine clVi (rest := [.ref (gAd G 0)]) (As := [.int (61 : Int32)]) hE hml hl.1 hw (c_X11_sees hE.2.2.2.2.2 l _ _ _ hq) mu60 mu61 mu62 mu63 mu3 rfl (k := 1) (by decide +kernel) (by decide) (ci := 11) rfl (q0 := 0) rfl rfl rfl (Nat.le_of_ble_eq_true rfl) dX11_doInner_91 (by decide) (fun r6 σ6 hq H locs hw => ?_)
          refine lv_if_eq (tgt := 101) hE.1 hE.2.1 dX11_doInner_94 (by decide) (fun c7 => ?_) (fun c7 => ?_)
          · have hq := hq.1 c7
            refine lv_iconst (v := (0 : Int32)) hE.1 hE.2.1 dX11_doInner_101 (by decide) ?_
            refine lv_bipush (v := (7 : Int32)) hE.1 hE.2.1 dX11_doInner_102 (by decide) ?_
            refine lv_iconst (v := (0 : Int32)) hE.1 hE.2.1 dX11_doInner_104 (by decide) ?_
            refine clVv (rest := []) (As := [.int (0 : Int32), .int (7 : Int32), .int (0 : Int32)]) hE hml hl.1 hw (c_X11_joined hE.2.2.2.2.2 l _ _ _ _ _ hq) mu72 mu73 mu74 mu75 mu3 rfl (k := 3) (by decide +kernel) (by decide) (ci := 11) rfl (q0 := 0) rfl rfl rfl (Nat.le_of_ble_eq_true rfl) dX11_doInner_105 (by decide) (fun σ7 hq H locs hw => ?_)
            refine lv_goto (tgt := 254) hE.1 hE.2.1 dX11_doInner_108 (by decide) ?_
            exact rtV hE hr hlk hw hq dX11_doInner_254
          · have hq := hq.2 c7
            refine lv_iconst (v := (1 : Int32)) hE.1 hE.2.1 dX11_doInner_97 (by decide) ?_
            refine lv_goto (tgt := 102) hE.1 hE.2.1 dX11_doInner_98 (by decide) ?_
            refine lv_bipush (v := (7 : Int32)) hE.1 hE.2.1 dX11_doInner_102 (by decide) ?_
            refine lv_iconst (v := (0 : Int32)) hE.1 hE.2.1 dX11_doInner_104 (by decide) ?_
            refine clVv (rest := []) (As := [.int (1 : Int32), .int (7 : Int32), .int (0 : Int32)]) hE hml hl.1 hw (c_X11_joined hE.2.2.2.2.2 l _ _ _ _ _ hq) mu72 mu73 mu74 mu75 mu3 rfl (k := 3) (by decide +kernel) (by decide) (ci := 11) rfl (q0 := 0) rfl rfl rfl (Nat.le_of_ble_eq_true rfl) dX11_doInner_105 (by decide) (fun σ8 hq H locs hw => ?_)
            refine lv_goto (tgt := 254) hE.1 hE.2.1 dX11_doInner_108 (by decide) ?_
            exact rtV hE hr hlk hw hq dX11_doInner_254
      · have hq := hq.2 c3
        by_cases c8 : a1 = (7 : Int32)
        · have hq := hq.1 c8
          refine lv_tableH (off := 110) (tgt := 111) hE.1 hE.2.1 dX11_doInner_1 c8 (by decide) (by decide) (by decide) (by decide) ?_
          refine lv_aload_n hE.1 hE.2.1 dX11_doInner_111 rfl (lv_at hl 0 rfl) ?_
          refine lv_bipush (v := (8 : Int32)) hE.1 hE.2.1 dX11_doInner_112 (by decide) ?_
          refine lv_iconst (v := (0 : Int32)) hE.1 hE.2.1 dX11_doInner_114 (by decide) ?_
          refine clVv (rest := []) (As := [.int (8 : Int32), .int (0 : Int32)]) hE hml hl.1 hw (c_X11_come hE.2.2.2.2.2 l _ _ _ _ hq) mu45 mu46 mu47 mu48 mu3 rfl (k := 2) (by decide +kernel) (by decide) (ci := 11) rfl (q0 := 0) rfl rfl rfl (Nat.le_of_ble_eq_true rfl) dX11_doInner_115 (by decide) (fun σ9 hq H locs hw => ?_)
          refine lv_aload_n hE.1 hE.2.1 dX11_doInner_118 rfl (lv_at hl 0 rfl) ?_
          refine lv_bipush (v := (9 : Int32)) hE.1 hE.2.1 dX11_doInner_119 (by decide) ?_
          refine lv_iconst (v := (0 : Int32)) hE.1 hE.2.1 dX11_doInner_121 (by decide) ?_
          refine clVv (rest := []) (As := [.int (9 : Int32), .int (0 : Int32)]) hE hml hl.1 hw (c_X11_come hE.2.2.2.2.2 l _ _ _ _ hq) mu45 mu46 mu47 mu48 mu3 rfl (k := 2) (by decide +kernel) (by decide) (ci := 11) rfl (q0 := 0) rfl rfl rfl (Nat.le_of_ble_eq_true rfl) dX11_doInner_122 (by decide) (fun σ10 hq H locs hw => ?_)
          refine lv_goto (tgt := 254) hE.1 hE.2.1 dX11_doInner_125 (by decide) ?_
          exact rtV hE hr hlk hw hq dX11_doInner_254
        · have hq := hq.2 c8
          by_cases c9 : a1 = (8 : Int32)
          · have hq := hq.1 c9
            refine lv_tableH (off := 127) (tgt := 128) hE.1 hE.2.1 dX11_doInner_1 c9 (by decide) (by decide) (by decide) (by decide) ?_
            refine lv_aload_n hE.1 hE.2.1 dX11_doInner_128 rfl (lv_at hl 0 rfl) ?_
            refine lv_aload_n hE.1 hE.2.1 dX11_doInner_129 rfl (lv_at hl 0 rfl) ?_
            refine lv_bipush (v := (43 : Int32)) hE.1 hE.2.1 dX11_doInner_130 (by decide) ?_
            refine clVi (rest := [.ref (gAd G 0)]) (As := [.int (43 : Int32)]) hE hml hl.1 hw (c_X11_sees hE.2.2.2.2.2 l _ _ _ hq) mu60 mu61 mu62 mu63 mu3 rfl (k := 1) (by decide +kernel) (by decide) (ci := 11) rfl (q0 := 0) rfl rfl rfl (Nat.le_of_ble_eq_true rfl) dX11_doInner_132 (by decide) (fun r10 σ11 hq H locs hw => ?_)
            refine lv_if_ne (tgt := 147) hE.1 hE.2.1 dX11_doInner_135 (by decide) (fun c11 => ?_) (fun c11 => ?_)
            · have hq := hq.2 c11
              refine lv_iconst (v := (1 : Int32)) hE.1 hE.2.1 dX11_doInner_147 (by decide) ?_
              refine lv_goto (tgt := 152) hE.1 hE.2.1 dX11_doInner_148 (by decide) ?_
              refine lv_bipush (v := (9 : Int32)) hE.1 hE.2.1 dX11_doInner_152 (by decide) ?_
              refine lv_bipush (v := (8 : Int32)) hE.1 hE.2.1 dX11_doInner_154 (by decide) ?_
              refine clVv (rest := []) (As := [.int (1 : Int32), .int (9 : Int32), .int (8 : Int32)]) hE hml hl.1 hw (c_X11_joined hE.2.2.2.2.2 l _ _ _ _ _ hq) mu72 mu73 mu74 mu75 mu3 rfl (k := 3) (by decide +kernel) (by decide) (ci := 11) rfl (q0 := 0) rfl rfl rfl (Nat.le_of_ble_eq_true rfl) dX11_doInner_156 (by decide) (fun σ12 hq H locs hw => ?_)
              refine lv_goto (tgt := 254) hE.1 hE.2.1 dX11_doInner_159 (by decide) ?_
              exact rtV hE hr hlk hw hq dX11_doInner_254
            · have hq := hq.1 c11
              refine lv_aload_n hE.1 hE.2.1 dX11_doInner_138 rfl (lv_at hl 0 rfl) ?_
              refine lv_bipush (v := (45 : Int32)) hE.1 hE.2.1 dX11_doInner_139 (by decide) ?_
              refine clVi (rest := [.ref (gAd G 0)]) (As := [.int (45 : Int32)]) hE hml hl.1 hw (c_X11_sees hE.2.2.2.2.2 l _ _ _ hq) mu60 mu61 mu62 mu63 mu3 rfl (k := 1) (by decide +kernel) (by decide) (ci := 11) rfl (q0 := 0) rfl rfl rfl (Nat.le_of_ble_eq_true rfl) dX11_doInner_141 (by decide) (fun r12 σ13 hq H locs hw => ?_)
              refine lv_if_eq (tgt := 151) hE.1 hE.2.1 dX11_doInner_144 (by decide) (fun c13 => ?_) (fun c13 => ?_)
              · have hq := hq.1 c13
                refine lv_iconst (v := (0 : Int32)) hE.1 hE.2.1 dX11_doInner_151 (by decide) ?_
                refine lv_bipush (v := (9 : Int32)) hE.1 hE.2.1 dX11_doInner_152 (by decide) ?_
                refine lv_bipush (v := (8 : Int32)) hE.1 hE.2.1 dX11_doInner_154 (by decide) ?_
                refine clVv (rest := []) (As := [.int (0 : Int32), .int (9 : Int32), .int (8 : Int32)]) hE hml hl.1 hw (c_X11_joined hE.2.2.2.2.2 l _ _ _ _ _ hq) mu72 mu73 mu74 mu75 mu3 rfl (k := 3) (by decide +kernel) (by decide) (ci := 11) rfl (q0 := 0) rfl rfl rfl (Nat.le_of_ble_eq_true rfl) dX11_doInner_156 (by decide) (fun σ14 hq H locs hw => ?_)
                refine lv_goto (tgt := 254) hE.1 hE.2.1 dX11_doInner_159 (by decide) ?_
                exact rtV hE hr hlk hw hq dX11_doInner_254
              · have hq := hq.2 c13
                refine lv_iconst (v := (1 : Int32)) hE.1 hE.2.1 dX11_doInner_147 (by decide) ?_
                refine lv_goto (tgt := 152) hE.1 hE.2.1 dX11_doInner_148 (by decide) ?_
                refine lv_bipush (v := (9 : Int32)) hE.1 hE.2.1 dX11_doInner_152 (by decide) ?_
                refine lv_bipush (v := (8 : Int32)) hE.1 hE.2.1 dX11_doInner_154 (by decide) ?_
                refine clVv (rest := []) (As := [.int (1 : Int32), .int (9 : Int32), .int (8 : Int32)]) hE hml hl.1 hw (c_X11_joined hE.2.2.2.2.2 l _ _ _ _ _ hq) mu72 mu73 mu74 mu75 mu3 rfl (k := 3) (by decide +kernel) (by decide) (ci := 11) rfl (q0 := 0) rfl rfl rfl (Nat.le_of_ble_eq_true rfl) dX11_doInner_156 (by decide) (fun σ15 hq H locs hw => ?_)
                refine lv_goto (tgt := 254) hE.1 hE.2.1 dX11_doInner_159 (by decide) ?_
                exact rtV hE hr hlk hw hq dX11_doInner_254
          · have hq := hq.2 c9
            by_cases c14 : a1 = (9 : Int32)
            · have hq := hq.1 c14
              refine lv_tableH (off := 161) (tgt := 162) hE.1 hE.2.1 dX11_doInner_1 c14 (by decide) (by decide) (by decide) (by decide) ?_
              refine lv_aload_n hE.1 hE.2.1 dX11_doInner_162 rfl (lv_at hl 0 rfl) ?_
              refine lv_bipush (v := (10 : Int32)) hE.1 hE.2.1 dX11_doInner_163 (by decide) ?_
              refine lv_iconst (v := (0 : Int32)) hE.1 hE.2.1 dX11_doInner_165 (by decide) ?_
              refine clVv (rest := []) (As := [.int (10 : Int32), .int (0 : Int32)]) hE hml hl.1 hw (c_X11_come hE.2.2.2.2.2 l _ _ _ _ hq) mu45 mu46 mu47 mu48 mu3 rfl (k := 2) (by decide +kernel) (by decide) (ci := 11) rfl (q0 := 0) rfl rfl rfl (Nat.le_of_ble_eq_true rfl) dX11_doInner_166 (by decide) (fun σ16 hq H locs hw => ?_)
              refine lv_aload_n hE.1 hE.2.1 dX11_doInner_169 rfl (lv_at hl 0 rfl) ?_
              refine lv_bipush (v := (11 : Int32)) hE.1 hE.2.1 dX11_doInner_170 (by decide) ?_
              refine lv_iconst (v := (0 : Int32)) hE.1 hE.2.1 dX11_doInner_172 (by decide) ?_
              refine clVv (rest := []) (As := [.int (11 : Int32), .int (0 : Int32)]) hE hml hl.1 hw (c_X11_come hE.2.2.2.2.2 l _ _ _ _ hq) mu45 mu46 mu47 mu48 mu3 rfl (k := 2) (by decide +kernel) (by decide) (ci := 11) rfl (q0 := 0) rfl rfl rfl (Nat.le_of_ble_eq_true rfl) dX11_doInner_173 (by decide) (fun σ17 hq H locs hw => ?_)
              refine lv_goto (tgt := 254) hE.1 hE.2.1 dX11_doInner_176 (by decide) ?_
              exact rtV hE hr hlk hw hq dX11_doInner_254
            · have hq := hq.2 c14
              by_cases c15 : a1 = (10 : Int32)
              · have hq := hq.1 c15
                refine lv_tableH (off := 178) (tgt := 179) hE.1 hE.2.1 dX11_doInner_1 c15 (by decide) (by decide) (by decide) (by decide) ?_
                refine lv_aload_n hE.1 hE.2.1 dX11_doInner_179 rfl (lv_at hl 0 rfl) ?_
                refine lv_aload_n hE.1 hE.2.1 dX11_doInner_180 rfl (lv_at hl 0 rfl) ?_
                refine lv_bipush (v := (42 : Int32)) hE.1 hE.2.1 dX11_doInner_181 (by decide) ?_
                refine clVi (rest := [.ref (gAd G 0)]) (As := [.int (42 : Int32)]) hE hml hl.1 hw (c_X11_sees hE.2.2.2.2.2 l _ _ _ hq) mu60 mu61 mu62 mu63 mu3 rfl (k := 1) (by decide +kernel) (by decide) (ci := 11) rfl (q0 := 0) rfl rfl rfl (Nat.le_of_ble_eq_true rfl) dX11_doInner_183 (by decide) (fun r16 σ18 hq H locs hw => ?_)
                refine lv_if_ne (tgt := 207) hE.1 hE.2.1 dX11_doInner_186 (by decide) (fun c17 => ?_) (fun c17 => ?_)
                · have hq := hq.2 c17
                  refine lv_iconst (v := (1 : Int32)) hE.1 hE.2.1 dX11_doInner_207 (by decide) ?_
                  refine lv_goto (tgt := 212) hE.1 hE.2.1 dX11_doInner_208 (by decide) ?_
                  refine lv_bipush (v := (11 : Int32)) hE.1 hE.2.1 dX11_doInner_212 (by decide) ?_
                  refine lv_bipush (v := (10 : Int32)) hE.1 hE.2.1 dX11_doInner_214 (by decide) ?_
                  refine clVv (rest := []) (As := [.int (1 : Int32), .int (11 : Int32), .int (10 : Int32)]) hE hml hl.1 hw (c_X11_joined hE.2.2.2.2.2 l _ _ _ _ _ hq) mu72 mu73 mu74 mu75 mu3 rfl (k := 3) (by decide +kernel) (by decide) (ci := 11) rfl (q0 := 0) rfl rfl rfl (Nat.le_of_ble_eq_true rfl) dX11_doInner_216 (by decide) (fun σ19 hq H locs hw => ?_)
                  refine lv_goto (tgt := 254) hE.1 hE.2.1 dX11_doInner_219 (by decide) ?_
                  exact rtV hE hr hlk hw hq dX11_doInner_254
                · have hq := hq.1 c17
                  refine lv_aload_n hE.1 hE.2.1 dX11_doInner_189 rfl (lv_at hl 0 rfl) ?_
                  refine lv_bipush (v := (47 : Int32)) hE.1 hE.2.1 dX11_doInner_190 (by decide) ?_
                  refine clVi (rest := [.ref (gAd G 0)]) (As := [.int (47 : Int32)]) hE hml hl.1 hw (c_X11_sees hE.2.2.2.2.2 l _ _ _ hq) mu60 mu61 mu62 mu63 mu3 rfl (k := 1) (by decide +kernel) (by decide) (ci := 11) rfl (q0 := 0) rfl rfl rfl (Nat.le_of_ble_eq_true rfl) dX11_doInner_192 (by decide) (fun r18 σ20 hq H locs hw => ?_)
                  refine lv_if_ne (tgt := 207) hE.1 hE.2.1 dX11_doInner_195 (by decide) (fun c19 => ?_) (fun c19 => ?_)
                  · have hq := hq.2 c19
                    refine lv_iconst (v := (1 : Int32)) hE.1 hE.2.1 dX11_doInner_207 (by decide) ?_
                    refine lv_goto (tgt := 212) hE.1 hE.2.1 dX11_doInner_208 (by decide) ?_
                    refine lv_bipush (v := (11 : Int32)) hE.1 hE.2.1 dX11_doInner_212 (by decide) ?_
                    refine lv_bipush (v := (10 : Int32)) hE.1 hE.2.1 dX11_doInner_214 (by decide) ?_
                    refine clVv (rest := []) (As := [.int (1 : Int32), .int (11 : Int32), .int (10 : Int32)]) hE hml hl.1 hw (c_X11_joined hE.2.2.2.2.2 l _ _ _ _ _ hq) mu72 mu73 mu74 mu75 mu3 rfl (k := 3) (by decide +kernel) (by decide) (ci := 11) rfl (q0 := 0) rfl rfl rfl (Nat.le_of_ble_eq_true rfl) dX11_doInner_216 (by decide) (fun σ21 hq H locs hw => ?_)
                    refine lv_goto (tgt := 254) hE.1 hE.2.1 dX11_doInner_219 (by decide) ?_
                    exact rtV hE hr hlk hw hq dX11_doInner_254
                  · have hq := hq.1 c19
                    refine lv_aload_n hE.1 hE.2.1 dX11_doInner_198 rfl (lv_at hl 0 rfl) ?_
                    refine lv_bipush (v := (37 : Int32)) hE.1 hE.2.1 dX11_doInner_199 (by decide) ?_
                    refine clVi (rest := [.ref (gAd G 0)]) (As := [.int (37 : Int32)]) hE hml hl.1 hw (c_X11_sees hE.2.2.2.2.2 l _ _ _ hq) mu60 mu61 mu62 mu63 mu3 rfl (k := 1) (by decide +kernel) (by decide) (ci := 11) rfl (q0 := 0) rfl rfl rfl (Nat.le_of_ble_eq_true rfl) dX11_doInner_201 (by decide) (fun r20 σ22 hq H locs hw => ?_)
                    refine lv_if_eq (tgt := 211) hE.1 hE.2.1 dX11_doInner_204 (by decide) (fun c21 => ?_) (fun c21 => ?_)
                    · have hq := hq.1 c21
                      refine lv_iconst (v := (0 : Int32)) hE.1 hE.2.1 dX11_doInner_211 (by decide) ?_
                      refine lv_bipush (v := (11 : Int32)) hE.1 hE.2.1 dX11_doInner_212 (by decide) ?_
                      refine lv_bipush (v := (10 : Int32)) hE.1 hE.2.1 dX11_doInner_214 (by decide) ?_
                      refine clVv (rest := []) (As := [.int (0 : Int32), .int (11 : Int32), .int (10 : Int32)]) hE hml hl.1 hw (c_X11_joined hE.2.2.2.2.2 l _ _ _ _ _ hq) mu72 mu73 mu74 mu75 mu3 rfl (k := 3) (by decide +kernel) (by decide) (ci := 11) rfl (q0 := 0) rfl rfl rfl (Nat.le_of_ble_eq_true rfl) dX11_doInner_216 (by decide) (fun σ23 hq H locs hw => ?_)
                      refine lv_goto (tgt := 254) hE.1 hE.2.1 dX11_doInner_219 (by decide) ?_
                      exact rtV hE hr hlk hw hq dX11_doInner_254
                    · have hq := hq.2 c21
                      refine lv_iconst (v := (1 : Int32)) hE.1 hE.2.1 dX11_doInner_207 (by decide) ?_
                      refine lv_goto (tgt := 212) hE.1 hE.2.1 dX11_doInner_208 (by decide) ?_
                      refine lv_bipush (v := (11 : Int32)) hE.1 hE.2.1 dX11_doInner_212 (by decide) ?_
                      refine lv_bipush (v := (10 : Int32)) hE.1 hE.2.1 dX11_doInner_214 (by decide) ?_
                      refine clVv (rest := []) (As := [.int (1 : Int32), .int (11 : Int32), .int (10 : Int32)]) hE hml hl.1 hw (c_X11_joined hE.2.2.2.2.2 l _ _ _ _ _ hq) mu72 mu73 mu74 mu75 mu3 rfl (k := 3) (by decide +kernel) (by decide) (ci := 11) rfl (q0 := 0) rfl rfl rfl (Nat.le_of_ble_eq_true rfl) dX11_doInner_216 (by decide) (fun σ24 hq H locs hw => ?_)
                      refine lv_goto (tgt := 254) hE.1 hE.2.1 dX11_doInner_219 (by decide) ?_
                      exact rtV hE hr hlk hw hq dX11_doInner_254
              · have hq := hq.2 c15
                by_cases c22 : a1 = (11 : Int32)
                · have hq := hq.1 c22
                  refine lv_tableH (off := 221) (tgt := 222) hE.1 hE.2.1 dX11_doInner_1 c22 (by decide) (by decide) (by decide) (by decide) ?_
                  refine lv_aload_n hE.1 hE.2.1 dX11_doInner_222 rfl (lv_at hl 0 rfl) ?_
                  refine clVv (rest := []) (As := []) hE hml hl.1 hw (c_X11_factor hE.2.2.2.2.2 l _ _ hq) mu93 mu94 mu95 mu96 mu3 rfl (k := 0) (by decide +kernel) (by decide) (ci := 11) rfl (q0 := 0) rfl rfl rfl (Nat.le_of_ble_eq_true rfl) dX11_doInner_223 (by decide) (fun σ25 hq H locs hw => ?_)
                  refine lv_goto (tgt := 254) hE.1 hE.2.1 dX11_doInner_226 (by decide) ?_
                  exact rtV hE hr hlk hw hq dX11_doInner_254
                · have hq := hq.2 c22
                  by_cases c23 : a1 = (12 : Int32)
                  · have hq := hq.1 c23
                    refine lv_tableH (off := 228) (tgt := 229) hE.1 hE.2.1 dX11_doInner_1 c23 (by decide) (by decide) (by decide) (by decide) ?_
                    refine lv_aload_n hE.1 hE.2.1 dX11_doInner_229 rfl (lv_at hl 0 rfl) ?_
                    refine lv_bipush (v := (41 : Int32)) hE.1 hE.2.1 dX11_doInner_230 (by decide) ?_
                    refine clVv (rest := []) (As := [.int (41 : Int32)]) hE hml hl.1 hw (c_X11_expect hE.2.2.2.2.2 l _ _ _ hq) mu68 mu69 mu70 mu71 mu3 rfl (k := 1) (by decide +kernel) (by decide) (ci := 11) rfl (q0 := 0) rfl rfl rfl (Nat.le_of_ble_eq_true rfl) dX11_doInner_232 (by decide) (fun σ26 hq H locs hw => ?_)
                    refine lv_aload_n hE.1 hE.2.1 dX11_doInner_235 rfl (lv_at hl 0 rfl) ?_
                    refine lv_dup hE.1 hE.2.1 dX11_doInner_236 rfl ?_
                    refine mgf_X11_172 hE hw dX11_doInner_237 ?_
                    refine lv_iconst (v := (1 : Int32)) hE.1 hE.2.1 dX11_doInner_240 (by decide) ?_
                    refine lv_isub hE.1 hE.2.1 dX11_doInner_241 ?_
                    refine mpf_X11_172 hE hw dX11_doInner_242 (fun σ27 eσ27 H locs hw => ?_)
                    have hq := hq σ27 eσ27
                    refine lv_goto (tgt := 254) hE.1 hE.2.1 dX11_doInner_245 (by decide) ?_
                    exact rtV hE hr hlk hw hq dX11_doInner_254
                  · have hq := hq.2 c23
                    refine lv_tableD (ks := [4, 5, 6, 7, 8, 9, 10, 11, 12]) (tgt := 248) hE.1 hE.2.1 dX11_doInner_1 (by simp only [List.forall_mem_cons, List.not_mem_nil, false_implies, implies_true, and_true]; exact ⟨c1, c2, c3, c8, c9, c14, c15, c22, c23⟩) (by decide) (by decide) (by decide) ?_
                    refine lv_aload_n hE.1 hE.2.1 dX11_doInner_248 rfl (lv_at hl 0 rfl) ?_
                    refine lv_iload_n hE.1 hE.2.1 dX11_doInner_249 rfl (lv_at hl 2 rfl) ?_
                    refine lv_iconst (v := (0 : Int32)) hE.1 hE.2.1 dX11_doInner_250 (by decide) ?_
                    refine clVv (rest := []) (As := [.int a2, .int (0 : Int32)]) hE hml hl.1 hw (c_X11_put hE.2.2.2.2.2 l _ _ _ _ hq) mu89 mu90 mu91 mu92 mu3 rfl (k := 2) (by decide +kernel) (by decide) (ci := 11) rfl (q0 := 0) rfl rfl rfl (Nat.le_of_ble_eq_true rfl) dX11_doInner_251 (by decide) (fun σ28 hq H locs hw => ?_)
                    exact rtV hE hr hlk hw hq dX11_doInner_254
/-! QueueBenchModel.statement()V -/
abbrev rm_X11_statement : Room := { frames := 1, cells := 0, slots := 0, locals := 23 }
def wp_X11_statement_b215  (Φ : S9 → Prop) (a1 : Int32) (σ : S9) : Prop := (a1 = (164 : Int32) → wp_X11_come (11 : Int32) (0 : Int32) σ (fun σ1 => Φ σ1)) ∧ (¬ a1 = (164 : Int32) → Φ σ)
def wp_X11_statement_b155  (Φ : S9 → Prop) (a1 : Int32) (a2 : Int32) (σ : S9) : Prop := vp_in (σ.1 3) 3002 ∧ wp_X11_code a1 (σ.2.1 2 ((σ.1 3)).toNatClampNeg) a2 σ (fun r2 σ1 => ∀ σ2 : S9, σ2 = sF σ1 3 ((σ1.1 3) + (1 : Int32)) → wp_X11_come (4 : Int32) (59 : Int32) σ2 (fun σ3 => wp_X11_come (14 : Int32) r2 σ3 (fun σ4 => wp_X11_come (5 : Int32) (0 : Int32) σ4 (fun σ5 => (a1 = (133 : Int32) → wp_X11_statement_b215  Φ a1 σ5) ∧ (¬ a1 = (133 : Int32) → wp_X11_come (4 : Int32) (61 : Int32) σ5 (fun σ6 => wp_X11_statement_b215  Φ a1 σ6))))))
def wp_X11_statement_b279  (Φ : S9 → Prop) (a3 : Int32) (t0 : Int32) (σ : S9) : Prop := wp_X11_come t0 a3 σ (fun σ1 => wp_X11_come (3 : Int32) (0 : Int32) σ1 (fun σ2 => wp_X11_come (14 : Int32) a3 σ2 (fun σ3 => wp_X11_come (5 : Int32) (0 : Int32) σ3 (fun σ4 => Φ σ4))))
def wp_X11_statement_b246  (Φ : S9 → Prop) (a1 : Int32) (a2 : Int32) (σ : S9) : Prop := wp_X11_code a1 (0 : Int32) a2 σ (fun r1 σ1 => ∀ σ2 : S9, σ2 = sF σ1 3 ((σ1.1 3) + (1 : Int32)) → (a1 = (163 : Int32) → wp_X11_statement_b279  Φ r1 (15 : Int32) σ2) ∧ (¬ a1 = (163 : Int32) → wp_X11_statement_b279  Φ r1 (17 : Int32) σ2))
def wp_X11_statement  (σ : S9) (Φ : S9 → Prop) : Prop := vp_in (σ.1 3) 3002 ∧ ∀ x2 : Int32, x2 = (σ.2.1 1 ((σ.1 3)).toNatClampNeg) → vp_in (σ.1 3) 3002 ∧ ∀ x4 : Int32, x4 = (σ.2.1 3 ((σ.1 3)).toNatClampNeg) → ((σ.1 8) = (300 : Int32) → wp_X11_fail (σ.1 3) σ (fun σ10 => Φ σ10)) ∧ (¬ (σ.1 8) = (300 : Int32) → ∀ σ1 : S9, σ1 = sF σ 8 ((σ.1 8) + (1 : Int32)) → ∀ σ2 : S9, σ2 = sF σ1 9 (0 : Int32) → ∀ σ3 : S9, σ3 = sF σ2 14 (0 : Int32) → ∀ σ4 : S9, σ4 = sF σ3 15 (0 : Int32) → (x2 = (4 : Int32) → vp_in (σ4.1 3) 3002 ∧ vp_in (σ4.2.1 2 ((σ4.1 3)).toNatClampNeg) 26 ∧ ((σ4.2.1 15 ((σ4.2.1 2 ((σ4.1 3)).toNatClampNeg)).toNatClampNeg) = 0 → wp_X11_fail (σ4.1 3) σ4 (fun σ9 => Φ σ9)) ∧ (¬ (σ4.2.1 15 ((σ4.2.1 2 ((σ4.1 3)).toNatClampNeg)).toNatClampNeg) = 0 → vp_in (σ4.1 3) 3002 ∧ vp_in (σ4.2.1 2 ((σ4.1 3)).toNatClampNeg) 26 ∧ wp_X11_code (4 : Int32) (σ4.2.1 14 ((σ4.2.1 2 ((σ4.1 3)).toNatClampNeg)).toNatClampNeg) x4 σ4 (fun r17 σ6 => ∀ σ7 : S9, σ7 = sF σ6 3 ((σ6.1 3) + (1 : Int32)) → wp_X11_come (4 : Int32) (59 : Int32) σ7 (fun σ8 => Φ σ8)))) ∧ (¬ x2 = (4 : Int32) → (x2 = (3 : Int32) → wp_X11_statement_b155  Φ x2 x4 σ4) ∧ (¬ x2 = (3 : Int32) → (x2 = (164 : Int32) → wp_X11_statement_b155  Φ x2 x4 σ4) ∧ (¬ x2 = (164 : Int32) → (x2 = (133 : Int32) → wp_X11_statement_b155  Φ x2 x4 σ4) ∧ (¬ x2 = (133 : Int32) → (x2 = (163 : Int32) → wp_X11_statement_b246  Φ x2 x4 σ4) ∧ (¬ x2 = (163 : Int32) → (x2 = (142 : Int32) → wp_X11_statement_b246  Φ x2 x4 σ4) ∧ (¬ x2 = (142 : Int32) → wp_X11_fail (σ4.1 3) σ4 (fun σ5 => Φ σ5))))))))
theorem dX11_statement_0 : decode cX11_statement 0 = .ok (.aload_n 0, 1) := by decide +kernel
theorem dX11_statement_1 : decode cX11_statement 1 = .ok (.getfield 13, 3) := by decide +kernel
theorem dX11_statement_4 : decode cX11_statement 4 = .ok (.aload_n 0, 1) := by decide +kernel
theorem dX11_statement_5 : decode cX11_statement 5 = .ok (.getfield 125, 3) := by decide +kernel
theorem dX11_statement_8 : decode cX11_statement 8 = .ok (.iaload, 1) := by decide +kernel
theorem dX11_statement_9 : decode cX11_statement 9 = .ok (.istore_n 1, 1) := by decide +kernel
theorem dX11_statement_10 : decode cX11_statement 10 = .ok (.aload_n 0, 1) := by decide +kernel
theorem dX11_statement_11 : decode cX11_statement 11 = .ok (.getfield 19, 3) := by decide +kernel
theorem dX11_statement_14 : decode cX11_statement 14 = .ok (.aload_n 0, 1) := by decide +kernel
theorem dX11_statement_15 : decode cX11_statement 15 = .ok (.getfield 125, 3) := by decide +kernel
theorem dX11_statement_18 : decode cX11_statement 18 = .ok (.iaload, 1) := by decide +kernel
theorem dX11_statement_19 : decode cX11_statement 19 = .ok (.istore_n 2, 1) := by decide +kernel
theorem dX11_statement_20 : decode cX11_statement 20 = .ok (.aload_n 0, 1) := by decide +kernel
theorem dX11_statement_21 : decode cX11_statement 21 = .ok (.getfield 150, 3) := by decide +kernel
theorem dX11_statement_24 : decode cX11_statement 24 = .ok (.sipush 300, 3) := by decide +kernel
theorem dX11_statement_27 : decode cX11_statement 27 = .ok (.if_icmp .ne 12, 3) := by decide +kernel
theorem dX11_statement_30 : decode cX11_statement 30 = .ok (.aload_n 0, 1) := by decide +kernel
theorem dX11_statement_31 : decode cX11_statement 31 = .ok (.aload_n 0, 1) := by decide +kernel
theorem dX11_statement_32 : decode cX11_statement 32 = .ok (.getfield 125, 3) := by decide +kernel
theorem dX11_statement_35 : decode cX11_statement 35 = .ok (.invokevirtual 153, 3) := by decide +kernel
theorem dX11_statement_38 : decode cX11_statement 38 = .ok (.return_, 1) := by decide +kernel
theorem dX11_statement_39 : decode cX11_statement 39 = .ok (.aload_n 0, 1) := by decide +kernel
theorem dX11_statement_40 : decode cX11_statement 40 = .ok (.dup, 1) := by decide +kernel
theorem dX11_statement_41 : decode cX11_statement 41 = .ok (.getfield 150, 3) := by decide +kernel
theorem dX11_statement_44 : decode cX11_statement 44 = .ok (.iconst 1, 1) := by decide +kernel
theorem dX11_statement_45 : decode cX11_statement 45 = .ok (.iadd, 1) := by decide +kernel
theorem dX11_statement_46 : decode cX11_statement 46 = .ok (.putfield 150, 3) := by decide +kernel
theorem dX11_statement_49 : decode cX11_statement 49 = .ok (.aload_n 0, 1) := by decide +kernel
theorem dX11_statement_50 : decode cX11_statement 50 = .ok (.iconst 0, 1) := by decide +kernel
theorem dX11_statement_51 : decode cX11_statement 51 = .ok (.putfield 156, 3) := by decide +kernel
theorem dX11_statement_54 : decode cX11_statement 54 = .ok (.aload_n 0, 1) := by decide +kernel
theorem dX11_statement_55 : decode cX11_statement 55 = .ok (.iconst 0, 1) := by decide +kernel
theorem dX11_statement_56 : decode cX11_statement 56 = .ok (.putfield 140, 3) := by decide +kernel
theorem dX11_statement_59 : decode cX11_statement 59 = .ok (.aload_n 0, 1) := by decide +kernel
theorem dX11_statement_60 : decode cX11_statement 60 = .ok (.iconst 0, 1) := by decide +kernel
theorem dX11_statement_61 : decode cX11_statement 61 = .ok (.putfield 143, 3) := by decide +kernel
theorem dX11_statement_64 : decode cX11_statement 64 = .ok (.iload_n 1, 1) := by decide +kernel
theorem dX11_statement_65 : decode cX11_statement 65 = .ok (.iconst 4, 1) := by decide +kernel
theorem dX11_statement_66 : decode cX11_statement 66 = .ok (.if_icmp .ne 70, 3) := by decide +kernel
theorem dX11_statement_69 : decode cX11_statement 69 = .ok (.aload_n 0, 1) := by decide +kernel
theorem dX11_statement_70 : decode cX11_statement 70 = .ok (.getfield 55, 3) := by decide +kernel
theorem dX11_statement_73 : decode cX11_statement 73 = .ok (.aload_n 0, 1) := by decide +kernel
theorem dX11_statement_74 : decode cX11_statement 74 = .ok (.getfield 16, 3) := by decide +kernel
theorem dX11_statement_77 : decode cX11_statement 77 = .ok (.aload_n 0, 1) := by decide +kernel
theorem dX11_statement_78 : decode cX11_statement 78 = .ok (.getfield 125, 3) := by decide +kernel
theorem dX11_statement_81 : decode cX11_statement 81 = .ok (.iaload, 1) := by decide +kernel
theorem dX11_statement_82 : decode cX11_statement 82 = .ok (.baload, 1) := by decide +kernel
theorem dX11_statement_83 : decode cX11_statement 83 = .ok (.ifCond .ne 12, 3) := by decide +kernel
theorem dX11_statement_86 : decode cX11_statement 86 = .ok (.aload_n 0, 1) := by decide +kernel
theorem dX11_statement_87 : decode cX11_statement 87 = .ok (.aload_n 0, 1) := by decide +kernel
theorem dX11_statement_88 : decode cX11_statement 88 = .ok (.getfield 125, 3) := by decide +kernel
theorem dX11_statement_91 : decode cX11_statement 91 = .ok (.invokevirtual 153, 3) := by decide +kernel
theorem dX11_statement_94 : decode cX11_statement 94 = .ok (.return_, 1) := by decide +kernel
theorem dX11_statement_95 : decode cX11_statement 95 = .ok (.aload_n 0, 1) := by decide +kernel
theorem dX11_statement_96 : decode cX11_statement 96 = .ok (.iconst 4, 1) := by decide +kernel
theorem dX11_statement_97 : decode cX11_statement 97 = .ok (.aload_n 0, 1) := by decide +kernel
theorem dX11_statement_98 : decode cX11_statement 98 = .ok (.getfield 52, 3) := by decide +kernel
theorem dX11_statement_101 : decode cX11_statement 101 = .ok (.aload_n 0, 1) := by decide +kernel
theorem dX11_statement_102 : decode cX11_statement 102 = .ok (.getfield 16, 3) := by decide +kernel
theorem dX11_statement_105 : decode cX11_statement 105 = .ok (.aload_n 0, 1) := by decide +kernel
theorem dX11_statement_106 : decode cX11_statement 106 = .ok (.getfield 125, 3) := by decide +kernel
theorem dX11_statement_109 : decode cX11_statement 109 = .ok (.iaload, 1) := by decide +kernel
theorem dX11_statement_110 : decode cX11_statement 110 = .ok (.iaload, 1) := by decide +kernel
theorem dX11_statement_111 : decode cX11_statement 111 = .ok (.iload_n 2, 1) := by decide +kernel
theorem dX11_statement_112 : decode cX11_statement 112 = .ok (.invokevirtual 159, 3) := by decide +kernel
theorem dX11_statement_115 : decode cX11_statement 115 = .ok (.istore_n 3, 1) := by decide +kernel
theorem dX11_statement_116 : decode cX11_statement 116 = .ok (.aload_n 0, 1) := by decide +kernel
theorem dX11_statement_117 : decode cX11_statement 117 = .ok (.dup, 1) := by decide +kernel
theorem dX11_statement_118 : decode cX11_statement 118 = .ok (.getfield 125, 3) := by decide +kernel
theorem dX11_statement_121 : decode cX11_statement 121 = .ok (.iconst 1, 1) := by decide +kernel
theorem dX11_statement_122 : decode cX11_statement 122 = .ok (.iadd, 1) := by decide +kernel
theorem dX11_statement_123 : decode cX11_statement 123 = .ok (.putfield 125, 3) := by decide +kernel
theorem dX11_statement_126 : decode cX11_statement 126 = .ok (.aload_n 0, 1) := by decide +kernel
theorem dX11_statement_127 : decode cX11_statement 127 = .ok (.iconst 4, 1) := by decide +kernel
theorem dX11_statement_128 : decode cX11_statement 128 = .ok (.bipush 59, 2) := by decide +kernel
theorem dX11_statement_130 : decode cX11_statement 130 = .ok (.invokevirtual 162, 3) := by decide +kernel
theorem dX11_statement_133 : decode cX11_statement 133 = .ok (.goto 180, 3) := by decide +kernel
theorem dX11_statement_136 : decode cX11_statement 136 = .ok (.iload_n 1, 1) := by decide +kernel
theorem dX11_statement_137 : decode cX11_statement 137 = .ok (.iconst 3, 1) := by decide +kernel
theorem dX11_statement_138 : decode cX11_statement 138 = .ok (.if_icmp .eq 17, 3) := by decide +kernel
theorem dX11_statement_141 : decode cX11_statement 141 = .ok (.iload_n 1, 1) := by decide +kernel
theorem dX11_statement_142 : decode cX11_statement 142 = .ok (.sipush 164, 3) := by decide +kernel
theorem dX11_statement_145 : decode cX11_statement 145 = .ok (.if_icmp .eq 10, 3) := by decide +kernel
theorem dX11_statement_148 : decode cX11_statement 148 = .ok (.iload_n 1, 1) := by decide +kernel
theorem dX11_statement_149 : decode cX11_statement 149 = .ok (.sipush 133, 3) := by decide +kernel
theorem dX11_statement_152 : decode cX11_statement 152 = .ok (.if_icmp .ne 80, 3) := by decide +kernel
theorem dX11_statement_155 : decode cX11_statement 155 = .ok (.aload_n 0, 1) := by decide +kernel
theorem dX11_statement_156 : decode cX11_statement 156 = .ok (.iload_n 1, 1) := by decide +kernel
theorem dX11_statement_157 : decode cX11_statement 157 = .ok (.aload_n 0, 1) := by decide +kernel
theorem dX11_statement_158 : decode cX11_statement 158 = .ok (.getfield 16, 3) := by decide +kernel
theorem dX11_statement_161 : decode cX11_statement 161 = .ok (.aload_n 0, 1) := by decide +kernel
theorem dX11_statement_162 : decode cX11_statement 162 = .ok (.getfield 125, 3) := by decide +kernel
theorem dX11_statement_165 : decode cX11_statement 165 = .ok (.iaload, 1) := by decide +kernel
theorem dX11_statement_166 : decode cX11_statement 166 = .ok (.iload_n 2, 1) := by decide +kernel
theorem dX11_statement_167 : decode cX11_statement 167 = .ok (.invokevirtual 159, 3) := by decide +kernel
theorem dX11_statement_170 : decode cX11_statement 170 = .ok (.istore_n 3, 1) := by decide +kernel
theorem dX11_statement_171 : decode cX11_statement 171 = .ok (.aload_n 0, 1) := by decide +kernel
theorem dX11_statement_172 : decode cX11_statement 172 = .ok (.dup, 1) := by decide +kernel
theorem dX11_statement_173 : decode cX11_statement 173 = .ok (.getfield 125, 3) := by decide +kernel
theorem dX11_statement_176 : decode cX11_statement 176 = .ok (.iconst 1, 1) := by decide +kernel
theorem dX11_statement_177 : decode cX11_statement 177 = .ok (.iadd, 1) := by decide +kernel
theorem dX11_statement_178 : decode cX11_statement 178 = .ok (.putfield 125, 3) := by decide +kernel
theorem dX11_statement_181 : decode cX11_statement 181 = .ok (.aload_n 0, 1) := by decide +kernel
theorem dX11_statement_182 : decode cX11_statement 182 = .ok (.iconst 4, 1) := by decide +kernel
theorem dX11_statement_183 : decode cX11_statement 183 = .ok (.bipush 59, 2) := by decide +kernel
theorem dX11_statement_185 : decode cX11_statement 185 = .ok (.invokevirtual 162, 3) := by decide +kernel
theorem dX11_statement_188 : decode cX11_statement 188 = .ok (.aload_n 0, 1) := by decide +kernel
theorem dX11_statement_189 : decode cX11_statement 189 = .ok (.bipush 14, 2) := by decide +kernel
theorem dX11_statement_191 : decode cX11_statement 191 = .ok (.iload_n 3, 1) := by decide +kernel
theorem dX11_statement_192 : decode cX11_statement 192 = .ok (.invokevirtual 162, 3) := by decide +kernel
theorem dX11_statement_195 : decode cX11_statement 195 = .ok (.aload_n 0, 1) := by decide +kernel
theorem dX11_statement_196 : decode cX11_statement 196 = .ok (.iconst 5, 1) := by decide +kernel
theorem dX11_statement_197 : decode cX11_statement 197 = .ok (.iconst 0, 1) := by decide +kernel
theorem dX11_statement_198 : decode cX11_statement 198 = .ok (.invokevirtual 162, 3) := by decide +kernel
theorem dX11_statement_201 : decode cX11_statement 201 = .ok (.iload_n 1, 1) := by decide +kernel
theorem dX11_statement_202 : decode cX11_statement 202 = .ok (.sipush 133, 3) := by decide +kernel
theorem dX11_statement_205 : decode cX11_statement 205 = .ok (.if_icmp .eq 10, 3) := by decide +kernel
theorem dX11_statement_208 : decode cX11_statement 208 = .ok (.aload_n 0, 1) := by decide +kernel
theorem dX11_statement_209 : decode cX11_statement 209 = .ok (.iconst 4, 1) := by decide +kernel
theorem dX11_statement_210 : decode cX11_statement 210 = .ok (.bipush 61, 2) := by decide +kernel
theorem dX11_statement_212 : decode cX11_statement 212 = .ok (.invokevirtual 162, 3) := by decide +kernel
theorem dX11_statement_215 : decode cX11_statement 215 = .ok (.iload_n 1, 1) := by decide +kernel
theorem dX11_statement_216 : decode cX11_statement 216 = .ok (.sipush 164, 3) := by decide +kernel
theorem dX11_statement_219 : decode cX11_statement 219 = .ok (.if_icmp .ne 10, 3) := by decide +kernel
theorem dX11_statement_222 : decode cX11_statement 222 = .ok (.aload_n 0, 1) := by decide +kernel
theorem dX11_statement_223 : decode cX11_statement 223 = .ok (.bipush 11, 2) := by decide +kernel
theorem dX11_statement_225 : decode cX11_statement 225 = .ok (.iconst 0, 1) := by decide +kernel
theorem dX11_statement_226 : decode cX11_statement 226 = .ok (.invokevirtual 162, 3) := by decide +kernel
theorem dX11_statement_229 : decode cX11_statement 229 = .ok (.goto 84, 3) := by decide +kernel
theorem dX11_statement_232 : decode cX11_statement 232 = .ok (.iload_n 1, 1) := by decide +kernel
theorem dX11_statement_233 : decode cX11_statement 233 = .ok (.sipush 163, 3) := by decide +kernel
theorem dX11_statement_236 : decode cX11_statement 236 = .ok (.if_icmp .eq 10, 3) := by decide +kernel
theorem dX11_statement_239 : decode cX11_statement 239 = .ok (.iload_n 1, 1) := by decide +kernel
theorem dX11_statement_240 : decode cX11_statement 240 = .ok (.sipush 142, 3) := by decide +kernel
theorem dX11_statement_243 : decode cX11_statement 243 = .ok (.if_icmp .ne 62, 3) := by decide +kernel
theorem dX11_statement_246 : decode cX11_statement 246 = .ok (.aload_n 0, 1) := by decide +kernel
theorem dX11_statement_247 : decode cX11_statement 247 = .ok (.iload_n 1, 1) := by decide +kernel
theorem dX11_statement_248 : decode cX11_statement 248 = .ok (.iconst 0, 1) := by decide +kernel
theorem dX11_statement_249 : decode cX11_statement 249 = .ok (.iload_n 2, 1) := by decide +kernel
theorem dX11_statement_250 : decode cX11_statement 250 = .ok (.invokevirtual 159, 3) := by decide +kernel
theorem dX11_statement_253 : decode cX11_statement 253 = .ok (.istore_n 3, 1) := by decide +kernel
theorem dX11_statement_254 : decode cX11_statement 254 = .ok (.aload_n 0, 1) := by decide +kernel
theorem dX11_statement_255 : decode cX11_statement 255 = .ok (.dup, 1) := by decide +kernel
theorem dX11_statement_256 : decode cX11_statement 256 = .ok (.getfield 125, 3) := by decide +kernel
theorem dX11_statement_259 : decode cX11_statement 259 = .ok (.iconst 1, 1) := by decide +kernel
theorem dX11_statement_260 : decode cX11_statement 260 = .ok (.iadd, 1) := by decide +kernel
theorem dX11_statement_261 : decode cX11_statement 261 = .ok (.putfield 125, 3) := by decide +kernel
theorem dX11_statement_264 : decode cX11_statement 264 = .ok (.aload_n 0, 1) := by decide +kernel
theorem dX11_statement_265 : decode cX11_statement 265 = .ok (.iload_n 1, 1) := by decide +kernel
theorem dX11_statement_266 : decode cX11_statement 266 = .ok (.sipush 163, 3) := by decide +kernel
theorem dX11_statement_269 : decode cX11_statement 269 = .ok (.if_icmp .ne 8, 3) := by decide +kernel
theorem dX11_statement_272 : decode cX11_statement 272 = .ok (.bipush 15, 2) := by decide +kernel
theorem dX11_statement_274 : decode cX11_statement 274 = .ok (.goto 5, 3) := by decide +kernel
theorem dX11_statement_277 : decode cX11_statement 277 = .ok (.bipush 17, 2) := by decide +kernel
theorem dX11_statement_279 : decode cX11_statement 279 = .ok (.iload_n 3, 1) := by decide +kernel
theorem dX11_statement_280 : decode cX11_statement 280 = .ok (.invokevirtual 162, 3) := by decide +kernel
theorem dX11_statement_283 : decode cX11_statement 283 = .ok (.aload_n 0, 1) := by decide +kernel
theorem dX11_statement_284 : decode cX11_statement 284 = .ok (.iconst 3, 1) := by decide +kernel
theorem dX11_statement_285 : decode cX11_statement 285 = .ok (.iconst 0, 1) := by decide +kernel
theorem dX11_statement_286 : decode cX11_statement 286 = .ok (.invokevirtual 162, 3) := by decide +kernel
theorem dX11_statement_289 : decode cX11_statement 289 = .ok (.aload_n 0, 1) := by decide +kernel
theorem dX11_statement_290 : decode cX11_statement 290 = .ok (.bipush 14, 2) := by decide +kernel
theorem dX11_statement_292 : decode cX11_statement 292 = .ok (.iload_n 3, 1) := by decide +kernel
theorem dX11_statement_293 : decode cX11_statement 293 = .ok (.invokevirtual 162, 3) := by decide +kernel
theorem dX11_statement_296 : decode cX11_statement 296 = .ok (.aload_n 0, 1) := by decide +kernel
theorem dX11_statement_297 : decode cX11_statement 297 = .ok (.iconst 5, 1) := by decide +kernel
theorem dX11_statement_298 : decode cX11_statement 298 = .ok (.iconst 0, 1) := by decide +kernel
theorem dX11_statement_299 : decode cX11_statement 299 = .ok (.invokevirtual 162, 3) := by decide +kernel
theorem dX11_statement_302 : decode cX11_statement 302 = .ok (.goto 11, 3) := by decide +kernel
theorem dX11_statement_305 : decode cX11_statement 305 = .ok (.aload_n 0, 1) := by decide +kernel
theorem dX11_statement_306 : decode cX11_statement 306 = .ok (.aload_n 0, 1) := by decide +kernel
theorem dX11_statement_307 : decode cX11_statement 307 = .ok (.getfield 125, 3) := by decide +kernel
theorem dX11_statement_310 : decode cX11_statement 310 = .ok (.invokevirtual 153, 3) := by decide +kernel
theorem dX11_statement_313 : decode cX11_statement 313 = .ok (.return_, 1) := by decide +kernel
set_option maxRecDepth 20000 in
set_option maxHeartbeats 4000000 in
theorem tb_X11_statement_b215 {p : Program} {l : Launch} {e : Env} {s : State} {m : MethodId} {args : Array Value} {below : List Frame} {meth : Method} {c : Code} {G : GG} {Φ : S9 → Prop}  (hE : Ev 27 G p s m args c cX11_statement RX11) (hml : c.maxLocals = 4) (hr : meth.sig.returnType = none) (hlk : meth.locks = false)  {a1 : Int32} {σ : S9} {H : Heap} {locs : List Loc} {ls : Array Slot} (hq : wp_X11_statement_b215  Φ a1 σ) (hw : Pic mwl 27 G σ s.heap H locs) (hl : lv_has ls 4 [(0, .ref (gAd G 0)), (1, .int a1)]) : W p l e rm_X11_statement s m args below meth c H locs 0 0 (QV mwl 27 G below args s Φ) (F0 m 215 ls []) := by
  unfold wp_X11_statement_b215 at hq
  refine lv_iload_n hE.1 hE.2.1 dX11_statement_215 rfl (lv_at hl 1 rfl) ?_
  refine lv_sipush (v := (164 : Int32)) hE.1 hE.2.1 dX11_statement_216 (by decide) ?_
  refine lv_icmp_ne (tgt := 229) hE.1 hE.2.1 dX11_statement_219 (by decide) (fun c1 => ?_) (fun c1 => ?_)
  · have hq := hq.2 c1
    refine lv_goto (tgt := 313) hE.1 hE.2.1 dX11_statement_229 (by decide) ?_
    exact rtV hE hr hlk hw hq dX11_statement_313
  · have hq := hq.1 c1
    refine lv_aload_n hE.1 hE.2.1 dX11_statement_222 rfl (lv_at hl 0 rfl) ?_
    refine lv_bipush (v := (11 : Int32)) hE.1 hE.2.1 dX11_statement_223 (by decide) ?_
    refine lv_iconst (v := (0 : Int32)) hE.1 hE.2.1 dX11_statement_225 (by decide) ?_
    refine clVv (rest := []) (As := [.int (11 : Int32), .int (0 : Int32)]) hE hml hl.1 hw (c_X11_come hE.2.2.2.2.2 l _ _ _ _ hq) mu45 mu46 mu47 mu48 mu3 rfl (k := 2) (by decide +kernel) (by decide) (ci := 11) rfl (q0 := 0) rfl rfl rfl (Nat.le_of_ble_eq_true rfl) dX11_statement_226 (by decide) (fun σ1 hq H locs hw => ?_)
    refine lv_goto (tgt := 313) hE.1 hE.2.1 dX11_statement_229 (by decide) ?_
    exact rtV hE hr hlk hw hq dX11_statement_313
set_option maxRecDepth 20000 in
set_option maxHeartbeats 4000000 in
theorem tb_X11_statement_b155 {p : Program} {l : Launch} {e : Env} {s : State} {m : MethodId} {args : Array Value} {below : List Frame} {meth : Method} {c : Code} {G : GG} {Φ : S9 → Prop}  (hE : Ev 27 G p s m args c cX11_statement RX11) (hml : c.maxLocals = 4) (hr : meth.sig.returnType = none) (hlk : meth.locks = false)  {a1 : Int32} {a2 : Int32} {σ : S9} {H : Heap} {locs : List Loc} {ls : Array Slot} (hq : wp_X11_statement_b155  Φ a1 a2 σ) (hw : Pic mwl 27 G σ s.heap H locs) (hl : lv_has ls 4 [(0, .ref (gAd G 0)), (1, .int a1), (2, .int a2)]) : W p l e rm_X11_statement s m args below meth c H locs 0 0 (QV mwl 27 G below args s Φ) (F0 m 155 ls []) := by
  unfold wp_X11_statement_b155 at hq
  refine lv_aload_n hE.1 hE.2.1 dX11_statement_155 rfl (lv_at hl 0 rfl) ?_
  refine lv_iload_n hE.1 hE.2.1 dX11_statement_156 rfl (lv_at hl 1 rfl) ?_
  refine lv_aload_n hE.1 hE.2.1 dX11_statement_157 rfl (lv_at hl 0 rfl) ?_
  refine mgf_X11_16 hE hw dX11_statement_158 ?_
  refine lv_aload_n hE.1 hE.2.1 dX11_statement_161 rfl (lv_at hl 0 rfl) ?_
  refine mgf_X11_125 hE hw dX11_statement_162 ?_
  obtain ⟨hi1, hq⟩ := hq
  refine mal_3 hE hw hi1 dX11_statement_165 ?_
  refine lv_iload_n hE.1 hE.2.1 dX11_statement_166 rfl (lv_at hl 2 rfl) ?_
  refine clVi (rest := []) (As := [.int a1, .int (σ.2.1 2 ((σ.1 3)).toNatClampNeg), .int a2]) hE hml hl.1 hw (c_X11_code hE.2.2.2.2.2 l _ _ _ _ _ hq) mu56 mu57 mu58 mu59 mu3 rfl (k := 3) (by decide +kernel) (by decide) (ci := 11) rfl (q0 := 0) rfl rfl rfl (Nat.le_of_ble_eq_true rfl) dX11_statement_167 (by decide) (fun r2 σ1 hq H locs hw => ?_)
  refine lv_istore_n (lv' := [(3, .int r2), (0, .ref (gAd G 0)), (1, .int a1), (2, .int a2)]) hE.1 hE.2.1 dX11_statement_170 rfl hl (by decide) rfl (fun ls hl => ?_)
  refine lv_aload_n hE.1 hE.2.1 dX11_statement_171 rfl (lv_at hl 1 rfl) ?_
  refine lv_dup hE.1 hE.2.1 dX11_statement_172 rfl ?_
  refine mgf_X11_125 hE hw dX11_statement_173 ?_
  refine lv_iconst (v := (1 : Int32)) hE.1 hE.2.1 dX11_statement_176 (by decide) ?_
  refine lv_iadd hE.1 hE.2.1 dX11_statement_177 ?_
  refine mpf_X11_125 hE hw dX11_statement_178 (fun σ2 eσ2 H locs hw => ?_)
  have hq := hq σ2 eσ2
  refine lv_aload_n hE.1 hE.2.1 dX11_statement_181 rfl (lv_at hl 1 rfl) ?_
  refine lv_iconst (v := (4 : Int32)) hE.1 hE.2.1 dX11_statement_182 (by decide) ?_
  refine lv_bipush (v := (59 : Int32)) hE.1 hE.2.1 dX11_statement_183 (by decide) ?_
  refine clVv (rest := []) (As := [.int (4 : Int32), .int (59 : Int32)]) hE hml hl.1 hw (c_X11_come hE.2.2.2.2.2 l _ _ _ _ hq) mu45 mu46 mu47 mu48 mu3 rfl (k := 2) (by decide +kernel) (by decide) (ci := 11) rfl (q0 := 0) rfl rfl rfl (Nat.le_of_ble_eq_true rfl) dX11_statement_185 (by decide) (fun σ3 hq H locs hw => ?_)
  refine lv_aload_n hE.1 hE.2.1 dX11_statement_188 rfl (lv_at hl 1 rfl) ?_
  refine lv_bipush (v := (14 : Int32)) hE.1 hE.2.1 dX11_statement_189 (by decide) ?_
  refine lv_iload_n hE.1 hE.2.1 dX11_statement_191 rfl (lv_at hl 0 rfl) ?_
  refine clVv (rest := []) (As := [.int (14 : Int32), .int r2]) hE hml hl.1 hw (c_X11_come hE.2.2.2.2.2 l _ _ _ _ hq) mu45 mu46 mu47 mu48 mu3 rfl (k := 2) (by decide +kernel) (by decide) (ci := 11) rfl (q0 := 0) rfl rfl rfl (Nat.le_of_ble_eq_true rfl) dX11_statement_192 (by decide) (fun σ4 hq H locs hw => ?_)
  refine lv_aload_n hE.1 hE.2.1 dX11_statement_195 rfl (lv_at hl 1 rfl) ?_
  refine lv_iconst (v := (5 : Int32)) hE.1 hE.2.1 dX11_statement_196 (by decide) ?_
  refine lv_iconst (v := (0 : Int32)) hE.1 hE.2.1 dX11_statement_197 (by decide) ?_
  refine clVv (rest := []) (As := [.int (5 : Int32), .int (0 : Int32)]) hE hml hl.1 hw (c_X11_come hE.2.2.2.2.2 l _ _ _ _ hq) mu45 mu46 mu47 mu48 mu3 rfl (k := 2) (by decide +kernel) (by decide) (ci := 11) rfl (q0 := 0) rfl rfl rfl (Nat.le_of_ble_eq_true rfl) dX11_statement_198 (by decide) (fun σ5 hq H locs hw => ?_)
  refine lv_iload_n hE.1 hE.2.1 dX11_statement_201 rfl (lv_at hl 2 rfl) ?_
  refine lv_sipush (v := (133 : Int32)) hE.1 hE.2.1 dX11_statement_202 (by decide) ?_
  refine lv_icmp_eq (tgt := 215) hE.1 hE.2.1 dX11_statement_205 (by decide) (fun c3 => ?_) (fun c3 => ?_)
  · have hq := hq.1 c3
    exact tb_X11_statement_b215 hE hml hr hlk  hq hw (lv_sub hl [1, 2] rfl)
  · have hq := hq.2 c3
    refine lv_aload_n hE.1 hE.2.1 dX11_statement_208 rfl (lv_at hl 1 rfl) ?_
    refine lv_iconst (v := (4 : Int32)) hE.1 hE.2.1 dX11_statement_209 (by decide) ?_
    refine lv_bipush (v := (61 : Int32)) hE.1 hE.2.1 dX11_statement_210 (by decide) ?_
    refine clVv (rest := []) (As := [.int (4 : Int32), .int (61 : Int32)]) hE hml hl.1 hw (c_X11_come hE.2.2.2.2.2 l _ _ _ _ hq) mu45 mu46 mu47 mu48 mu3 rfl (k := 2) (by decide +kernel) (by decide) (ci := 11) rfl (q0 := 0) rfl rfl rfl (Nat.le_of_ble_eq_true rfl) dX11_statement_212 (by decide) (fun σ6 hq H locs hw => ?_)
    exact tb_X11_statement_b215 hE hml hr hlk  hq hw (lv_sub hl [1, 2] rfl)
set_option maxRecDepth 20000 in
set_option maxHeartbeats 4000000 in
theorem tb_X11_statement_b279 {p : Program} {l : Launch} {e : Env} {s : State} {m : MethodId} {args : Array Value} {below : List Frame} {meth : Method} {c : Code} {G : GG} {Φ : S9 → Prop}  (hE : Ev 27 G p s m args c cX11_statement RX11) (hml : c.maxLocals = 4) (hr : meth.sig.returnType = none) (hlk : meth.locks = false)  {a3 : Int32} {t0 : Int32} {σ : S9} {H : Heap} {locs : List Loc} {ls : Array Slot} (hq : wp_X11_statement_b279  Φ a3 t0 σ) (hw : Pic mwl 27 G σ s.heap H locs) (hl : lv_has ls 4 [(0, .ref (gAd G 0)), (3, .int a3)]) : W p l e rm_X11_statement s m args below meth c H locs 0 0 (QV mwl 27 G below args s Φ) (F0 m 279 ls [.int t0, .ref (gAd G 0)]) := by
  unfold wp_X11_statement_b279 at hq
  refine lv_iload_n hE.1 hE.2.1 dX11_statement_279 rfl (lv_at hl 1 rfl) ?_
  refine clVv (rest := []) (As := [.int t0, .int a3]) hE hml hl.1 hw (c_X11_come hE.2.2.2.2.2 l _ _ _ _ hq) mu45 mu46 mu47 mu48 mu3 rfl (k := 2) (by decide +kernel) (by decide) (ci := 11) rfl (q0 := 0) rfl rfl rfl (Nat.le_of_ble_eq_true rfl) dX11_statement_280 (by decide) (fun σ1 hq H locs hw => ?_)
  refine lv_aload_n hE.1 hE.2.1 dX11_statement_283 rfl (lv_at hl 0 rfl) ?_
  refine lv_iconst (v := (3 : Int32)) hE.1 hE.2.1 dX11_statement_284 (by decide) ?_
  refine lv_iconst (v := (0 : Int32)) hE.1 hE.2.1 dX11_statement_285 (by decide) ?_
  refine clVv (rest := []) (As := [.int (3 : Int32), .int (0 : Int32)]) hE hml hl.1 hw (c_X11_come hE.2.2.2.2.2 l _ _ _ _ hq) mu45 mu46 mu47 mu48 mu3 rfl (k := 2) (by decide +kernel) (by decide) (ci := 11) rfl (q0 := 0) rfl rfl rfl (Nat.le_of_ble_eq_true rfl) dX11_statement_286 (by decide) (fun σ2 hq H locs hw => ?_)
  refine lv_aload_n hE.1 hE.2.1 dX11_statement_289 rfl (lv_at hl 0 rfl) ?_
  refine lv_bipush (v := (14 : Int32)) hE.1 hE.2.1 dX11_statement_290 (by decide) ?_
  refine lv_iload_n hE.1 hE.2.1 dX11_statement_292 rfl (lv_at hl 1 rfl) ?_
  refine clVv (rest := []) (As := [.int (14 : Int32), .int a3]) hE hml hl.1 hw (c_X11_come hE.2.2.2.2.2 l _ _ _ _ hq) mu45 mu46 mu47 mu48 mu3 rfl (k := 2) (by decide +kernel) (by decide) (ci := 11) rfl (q0 := 0) rfl rfl rfl (Nat.le_of_ble_eq_true rfl) dX11_statement_293 (by decide) (fun σ3 hq H locs hw => ?_)
  refine lv_aload_n hE.1 hE.2.1 dX11_statement_296 rfl (lv_at hl 0 rfl) ?_
  refine lv_iconst (v := (5 : Int32)) hE.1 hE.2.1 dX11_statement_297 (by decide) ?_
  refine lv_iconst (v := (0 : Int32)) hE.1 hE.2.1 dX11_statement_298 (by decide) ?_
  refine clVv (rest := []) (As := [.int (5 : Int32), .int (0 : Int32)]) hE hml hl.1 hw (c_X11_come hE.2.2.2.2.2 l _ _ _ _ hq) mu45 mu46 mu47 mu48 mu3 rfl (k := 2) (by decide +kernel) (by decide) (ci := 11) rfl (q0 := 0) rfl rfl rfl (Nat.le_of_ble_eq_true rfl) dX11_statement_299 (by decide) (fun σ4 hq H locs hw => ?_)
  refine lv_goto (tgt := 313) hE.1 hE.2.1 dX11_statement_302 (by decide) ?_
  exact rtV hE hr hlk hw hq dX11_statement_313
set_option maxRecDepth 20000 in
set_option maxHeartbeats 4000000 in
theorem tb_X11_statement_b246 {p : Program} {l : Launch} {e : Env} {s : State} {m : MethodId} {args : Array Value} {below : List Frame} {meth : Method} {c : Code} {G : GG} {Φ : S9 → Prop}  (hE : Ev 27 G p s m args c cX11_statement RX11) (hml : c.maxLocals = 4) (hr : meth.sig.returnType = none) (hlk : meth.locks = false)  {a1 : Int32} {a2 : Int32} {σ : S9} {H : Heap} {locs : List Loc} {ls : Array Slot} (hq : wp_X11_statement_b246  Φ a1 a2 σ) (hw : Pic mwl 27 G σ s.heap H locs) (hl : lv_has ls 4 [(0, .ref (gAd G 0)), (1, .int a1), (2, .int a2)]) : W p l e rm_X11_statement s m args below meth c H locs 0 0 (QV mwl 27 G below args s Φ) (F0 m 246 ls []) := by
  unfold wp_X11_statement_b246 at hq
  refine lv_aload_n hE.1 hE.2.1 dX11_statement_246 rfl (lv_at hl 0 rfl) ?_
  refine lv_iload_n hE.1 hE.2.1 dX11_statement_247 rfl (lv_at hl 1 rfl) ?_
  refine lv_iconst (v := (0 : Int32)) hE.1 hE.2.1 dX11_statement_248 (by decide) ?_
  refine lv_iload_n hE.1 hE.2.1 dX11_statement_249 rfl (lv_at hl 2 rfl) ?_
  refine clVi (rest := []) (As := [.int a1, .int (0 : Int32), .int a2]) hE hml hl.1 hw (c_X11_code hE.2.2.2.2.2 l _ _ _ _ _ hq) mu56 mu57 mu58 mu59 mu3 rfl (k := 3) (by decide +kernel) (by decide) (ci := 11) rfl (q0 := 0) rfl rfl rfl (Nat.le_of_ble_eq_true rfl) dX11_statement_250 (by decide) (fun r1 σ1 hq H locs hw => ?_)
  refine lv_istore_n (lv' := [(3, .int r1), (0, .ref (gAd G 0)), (1, .int a1), (2, .int a2)]) hE.1 hE.2.1 dX11_statement_253 rfl hl (by decide) rfl (fun ls hl => ?_)
  refine lv_aload_n hE.1 hE.2.1 dX11_statement_254 rfl (lv_at hl 1 rfl) ?_
  refine lv_dup hE.1 hE.2.1 dX11_statement_255 rfl ?_
  refine mgf_X11_125 hE hw dX11_statement_256 ?_
  refine lv_iconst (v := (1 : Int32)) hE.1 hE.2.1 dX11_statement_259 (by decide) ?_
  refine lv_iadd hE.1 hE.2.1 dX11_statement_260 ?_
  refine mpf_X11_125 hE hw dX11_statement_261 (fun σ2 eσ2 H locs hw => ?_)
  have hq := hq σ2 eσ2
  refine lv_aload_n hE.1 hE.2.1 dX11_statement_264 rfl (lv_at hl 1 rfl) ?_
  refine lv_iload_n hE.1 hE.2.1 dX11_statement_265 rfl (lv_at hl 2 rfl) ?_
  refine lv_sipush (v := (163 : Int32)) hE.1 hE.2.1 dX11_statement_266 (by decide) ?_
  refine lv_icmp_ne (tgt := 277) hE.1 hE.2.1 dX11_statement_269 (by decide) (fun c2 => ?_) (fun c2 => ?_)
  · have hq := hq.2 c2
    refine lv_bipush (v := (17 : Int32)) hE.1 hE.2.1 dX11_statement_277 (by decide) ?_
    exact tb_X11_statement_b279 hE hml hr hlk  hq hw (lv_sub hl [1, 0] rfl)
  · have hq := hq.1 c2
    refine lv_bipush (v := (15 : Int32)) hE.1 hE.2.1 dX11_statement_272 (by decide) ?_
    refine lv_goto (tgt := 279) hE.1 hE.2.1 dX11_statement_274 (by decide) ?_
    exact tb_X11_statement_b279 hE hml hr hlk  hq hw (lv_sub hl [1, 0] rfl)
set_option maxRecDepth 20000 in
set_option maxHeartbeats 4000000 in
theorem c_X11_statement {G : GG} (hJ : gJ 27 G) (l : Launch)  (σ : S9) (Φ : S9 → Prop) (hq : wp_X11_statement  σ Φ) : CV mwl 27 G l yX11_statement cX11_statement 4 rm_X11_statement [.ref (gAd G 0)] σ Φ := by
  refine CV.intro (by decide) (Nat.le_of_ble_eq_true rfl) hJ ?_
  intro p e s m args below meth c ls hE hml hr hlk hw hl
  have hl : lv_has ls 4 [(0, .ref (gAd G 0))] := hl
  unfold wp_X11_statement at hq
  refine lv_aload_n hE.1 hE.2.1 dX11_statement_0 rfl (lv_at hl 0 rfl) ?_
  refine mgf_X11_13 hE hw dX11_statement_1 ?_
  refine lv_aload_n hE.1 hE.2.1 dX11_statement_4 rfl (lv_at hl 0 rfl) ?_
  refine mgf_X11_125 hE hw dX11_statement_5 ?_
  obtain ⟨hi1, hq⟩ := hq
  refine mal_2 hE hw hi1 dX11_statement_8 ?_
  refine lv_topi (fun x2 ex2 => ?_)
  have hq := hq x2 ex2
  refine lv_istore_n (lv' := [(1, .int x2), (0, .ref (gAd G 0))]) hE.1 hE.2.1 dX11_statement_9 rfl hl (by decide) rfl (fun ls hl => ?_)
  refine lv_aload_n hE.1 hE.2.1 dX11_statement_10 rfl (lv_at hl 1 rfl) ?_
  refine mgf_X11_19 hE hw dX11_statement_11 ?_
  refine lv_aload_n hE.1 hE.2.1 dX11_statement_14 rfl (lv_at hl 1 rfl) ?_
  refine mgf_X11_125 hE hw dX11_statement_15 ?_
  obtain ⟨hi3, hq⟩ := hq
  refine mal_4 hE hw hi3 dX11_statement_18 ?_
  refine lv_topi (fun x4 ex4 => ?_)
  have hq := hq x4 ex4
  refine lv_istore_n (lv' := [(2, .int x4), (1, .int x2), (0, .ref (gAd G 0))]) hE.1 hE.2.1 dX11_statement_19 rfl hl (by decide) rfl (fun ls hl => ?_)
  refine lv_aload_n hE.1 hE.2.1 dX11_statement_20 rfl (lv_at hl 2 rfl) ?_
  refine mgf_X11_150 hE hw dX11_statement_21 ?_
  refine lv_sipush (v := (300 : Int32)) hE.1 hE.2.1 dX11_statement_24 (by decide) ?_
  refine lv_icmp_ne (tgt := 39) hE.1 hE.2.1 dX11_statement_27 (by decide) (fun c5 => ?_) (fun c5 => ?_)
  · have hq := hq.2 c5
    refine lv_aload_n hE.1 hE.2.1 dX11_statement_39 rfl (lv_at hl 2 rfl) ?_
    refine lv_dup hE.1 hE.2.1 dX11_statement_40 rfl ?_
    refine mgf_X11_150 hE hw dX11_statement_41 ?_
    refine lv_iconst (v := (1 : Int32)) hE.1 hE.2.1 dX11_statement_44 (by decide) ?_
    refine lv_iadd hE.1 hE.2.1 dX11_statement_45 ?_
    refine mpf_X11_150 hE hw dX11_statement_46 (fun σ1 eσ1 H locs hw => ?_)
    have hq := hq σ1 eσ1
    refine lv_aload_n hE.1 hE.2.1 dX11_statement_49 rfl (lv_at hl 2 rfl) ?_
    refine lv_iconst (v := (0 : Int32)) hE.1 hE.2.1 dX11_statement_50 (by decide) ?_
    refine mpf_X11_156 hE hw dX11_statement_51 (fun σ2 eσ2 H locs hw => ?_)
    have hq := hq σ2 eσ2
    refine lv_aload_n hE.1 hE.2.1 dX11_statement_54 rfl (lv_at hl 2 rfl) ?_
    refine lv_iconst (v := (0 : Int32)) hE.1 hE.2.1 dX11_statement_55 (by decide) ?_
    refine mpf_X11_140 hE hw dX11_statement_56 (fun σ3 eσ3 H locs hw => ?_)
    have hq := hq σ3 eσ3
    refine lv_aload_n hE.1 hE.2.1 dX11_statement_59 rfl (lv_at hl 2 rfl) ?_
    refine lv_iconst (v := (0 : Int32)) hE.1 hE.2.1 dX11_statement_60 (by decide) ?_
    refine mpf_X11_143 hE hw dX11_statement_61 (fun σ4 eσ4 H locs hw => ?_)
    have hq := hq σ4 eσ4
    refine lv_iload_n hE.1 hE.2.1 dX11_statement_64 rfl (lv_at hl 1 rfl) ?_
    refine lv_iconst (v := (4 : Int32)) hE.1 hE.2.1 dX11_statement_65 (by decide) ?_
    refine lv_icmp_ne (tgt := 136) hE.1 hE.2.1 dX11_statement_66 (by decide) (fun c6 => ?_) (fun c6 => ?_)
    · have hq := hq.2 c6
      refine lv_iload_n hE.1 hE.2.1 dX11_statement_136 rfl (lv_at hl 1 rfl) ?_
      refine lv_iconst (v := (3 : Int32)) hE.1 hE.2.1 dX11_statement_137 (by decide) ?_
      refine lv_icmp_eq (tgt := 155) hE.1 hE.2.1 dX11_statement_138 (by decide) (fun c7 => ?_) (fun c7 => ?_)
      · have hq := hq.1 c7
        exact tb_X11_statement_b155 hE hml hr hlk  hq hw (lv_sub hl [2, 1, 0] rfl)
      · have hq := hq.2 c7
        refine lv_iload_n hE.1 hE.2.1 dX11_statement_141 rfl (lv_at hl 1 rfl) ?_
        refine lv_sipush (v := (164 : Int32)) hE.1 hE.2.1 dX11_statement_142 (by decide) ?_
        refine lv_icmp_eq (tgt := 155) hE.1 hE.2.1 dX11_statement_145 (by decide) (fun c8 => ?_) (fun c8 => ?_)
        · have hq := hq.1 c8
          exact tb_X11_statement_b155 hE hml hr hlk  hq hw (lv_sub hl [2, 1, 0] rfl)
        · have hq := hq.2 c8
          refine lv_iload_n hE.1 hE.2.1 dX11_statement_148 rfl (lv_at hl 1 rfl) ?_
          refine lv_sipush (v := (133 : Int32)) hE.1 hE.2.1 dX11_statement_149 (by decide) ?_
          refine lv_icmp_ne (tgt := 232) hE.1 hE.2.1 dX11_statement_152 (by decide) (fun c9 => ?_) (fun c9 => ?_)
          · have hq := hq.2 c9
            refine lv_iload_n hE.1 hE.2.1 dX11_statement_232 rfl (lv_at hl 1 rfl) ?_
            refine lv_sipush (v := (163 : Int32)) hE.1 hE.2.1 dX11_statement_233 (by decide) ?_
            refine lv_icmp_eq (tgt := 246) hE.1 hE.2.1 dX11_statement_236 (by decide) (fun c10 => ?_) (fun c10 => ?_)
            · have hq := hq.1 c10
              exact tb_X11_statement_b246 hE hml hr hlk  hq hw (lv_sub hl [2, 1, 0] rfl)
            · have hq := hq.2 c10
              refine lv_iload_n hE.1 hE.2.1 dX11_statement_239 rfl (lv_at hl 1 rfl) ?_
              refine lv_sipush (v := (142 : Int32)) hE.1 hE.2.1 dX11_statement_240 (by decide) ?_
              refine lv_icmp_ne (tgt := 305) hE.1 hE.2.1 dX11_statement_243 (by decide) (fun c11 => ?_) (fun c11 => ?_)
              · have hq := hq.2 c11
                refine lv_aload_n hE.1 hE.2.1 dX11_statement_305 rfl (lv_at hl 2 rfl) ?_
                refine lv_aload_n hE.1 hE.2.1 dX11_statement_306 rfl (lv_at hl 2 rfl) ?_
                refine mgf_X11_125 hE hw dX11_statement_307 ?_
                refine clVv (rest := []) (As := [.int (σ4.1 3)]) hE hml hl.1 hw (c_X11_fail hE.2.2.2.2.2 l _ _ _ hq) mu64 mu65 mu66 mu67 mu3 rfl (k := 1) (by decide +kernel) (by decide) (ci := 11) rfl (q0 := 0) rfl rfl rfl (Nat.le_of_ble_eq_true rfl) dX11_statement_310 (by decide) (fun σ5 hq H locs hw => ?_)
                exact rtV hE hr hlk hw hq dX11_statement_313
              · have hq := hq.1 c11
                exact tb_X11_statement_b246 hE hml hr hlk  hq hw (lv_sub hl [2, 1, 0] rfl)
          · have hq := hq.1 c9
            exact tb_X11_statement_b155 hE hml hr hlk  hq hw (lv_sub hl [2, 1, 0] rfl)
    · have hq := hq.1 c6
      refine lv_aload_n hE.1 hE.2.1 dX11_statement_69 rfl (lv_at hl 2 rfl) ?_
      refine mgf_X11_55 hE hw dX11_statement_70 ?_
      refine lv_aload_n hE.1 hE.2.1 dX11_statement_73 rfl (lv_at hl 2 rfl) ?_
      refine mgf_X11_16 hE hw dX11_statement_74 ?_
      refine lv_aload_n hE.1 hE.2.1 dX11_statement_77 rfl (lv_at hl 2 rfl) ?_
      refine mgf_X11_125 hE hw dX11_statement_78 ?_
      obtain ⟨hi12, hq⟩ := hq
      refine mal_3 hE hw hi12 dX11_statement_81 ?_
      obtain ⟨hi13, hq⟩ := hq
      refine mal_16 hE hw hi13 dX11_statement_82 ?_
      refine lv_if_ne (tgt := 95) hE.1 hE.2.1 dX11_statement_83 (by decide) (fun c14 => ?_) (fun c14 => ?_)
      · have hq := hq.2 c14
        refine lv_aload_n hE.1 hE.2.1 dX11_statement_95 rfl (lv_at hl 2 rfl) ?_
        refine lv_iconst (v := (4 : Int32)) hE.1 hE.2.1 dX11_statement_96 (by decide) ?_
        refine lv_aload_n hE.1 hE.2.1 dX11_statement_97 rfl (lv_at hl 2 rfl) ?_
        refine mgf_X11_52 hE hw dX11_statement_98 ?_
        refine lv_aload_n hE.1 hE.2.1 dX11_statement_101 rfl (lv_at hl 2 rfl) ?_
        refine mgf_X11_16 hE hw dX11_statement_102 ?_
        refine lv_aload_n hE.1 hE.2.1 dX11_statement_105 rfl (lv_at hl 2 rfl) ?_
        refine mgf_X11_125 hE hw dX11_statement_106 ?_
        obtain ⟨hi15, hq⟩ := hq
        refine mal_3 hE hw hi15 dX11_statement_109 ?_
        obtain ⟨hi16, hq⟩ := hq
        refine mal_15 hE hw hi16 dX11_statement_110 ?_
        refine lv_iload_n hE.1 hE.2.1 dX11_statement_111 rfl (lv_at hl 0 rfl) ?_
        refine clVi (rest := []) (As := [.int (4 : Int32), .int (σ4.2.1 14 ((σ4.2.1 2 ((σ4.1 3)).toNatClampNeg)).toNatClampNeg), .int x4]) hE hml hl.1 hw (c_X11_code hE.2.2.2.2.2 l _ _ _ _ _ hq) mu56 mu57 mu58 mu59 mu3 rfl (k := 3) (by decide +kernel) (by decide) (ci := 11) rfl (q0 := 0) rfl rfl rfl (Nat.le_of_ble_eq_true rfl) dX11_statement_112 (by decide) (fun r17 σ6 hq H locs hw => ?_)
        refine lv_istore_n (lv' := [(3, .int r17), (2, .int x4), (1, .int x2), (0, .ref (gAd G 0))]) hE.1 hE.2.1 dX11_statement_115 rfl hl (by decide) rfl (fun ls hl => ?_)
        refine lv_aload_n hE.1 hE.2.1 dX11_statement_116 rfl (lv_at hl 3 rfl) ?_
        refine lv_dup hE.1 hE.2.1 dX11_statement_117 rfl ?_
        refine mgf_X11_125 hE hw dX11_statement_118 ?_
        refine lv_iconst (v := (1 : Int32)) hE.1 hE.2.1 dX11_statement_121 (by decide) ?_
        refine lv_iadd hE.1 hE.2.1 dX11_statement_122 ?_
        refine mpf_X11_125 hE hw dX11_statement_123 (fun σ7 eσ7 H locs hw => ?_)
        have hq := hq σ7 eσ7
        refine lv_aload_n hE.1 hE.2.1 dX11_statement_126 rfl (lv_at hl 3 rfl) ?_
        refine lv_iconst (v := (4 : Int32)) hE.1 hE.2.1 dX11_statement_127 (by decide) ?_
        refine lv_bipush (v := (59 : Int32)) hE.1 hE.2.1 dX11_statement_128 (by decide) ?_
        refine clVv (rest := []) (As := [.int (4 : Int32), .int (59 : Int32)]) hE hml hl.1 hw (c_X11_come hE.2.2.2.2.2 l _ _ _ _ hq) mu45 mu46 mu47 mu48 mu3 rfl (k := 2) (by decide +kernel) (by decide) (ci := 11) rfl (q0 := 0) rfl rfl rfl (Nat.le_of_ble_eq_true rfl) dX11_statement_130 (by decide) (fun σ8 hq H locs hw => ?_)
        refine lv_goto (tgt := 313) hE.1 hE.2.1 dX11_statement_133 (by decide) ?_
        exact rtV hE hr hlk hw hq dX11_statement_313
      · have hq := hq.1 c14
        refine lv_aload_n hE.1 hE.2.1 dX11_statement_86 rfl (lv_at hl 2 rfl) ?_
        refine lv_aload_n hE.1 hE.2.1 dX11_statement_87 rfl (lv_at hl 2 rfl) ?_
        refine mgf_X11_125 hE hw dX11_statement_88 ?_
        refine clVv (rest := []) (As := [.int (σ4.1 3)]) hE hml hl.1 hw (c_X11_fail hE.2.2.2.2.2 l _ _ _ hq) mu64 mu65 mu66 mu67 mu3 rfl (k := 1) (by decide +kernel) (by decide) (ci := 11) rfl (q0 := 0) rfl rfl rfl (Nat.le_of_ble_eq_true rfl) dX11_statement_91 (by decide) (fun σ9 hq H locs hw => ?_)
        exact rtV hE hr hlk hw hq dX11_statement_94
  · have hq := hq.1 c5
    refine lv_aload_n hE.1 hE.2.1 dX11_statement_30 rfl (lv_at hl 2 rfl) ?_
    refine lv_aload_n hE.1 hE.2.1 dX11_statement_31 rfl (lv_at hl 2 rfl) ?_
    refine mgf_X11_125 hE hw dX11_statement_32 ?_
    refine clVv (rest := []) (As := [.int (σ.1 3)]) hE hml hl.1 hw (c_X11_fail hE.2.2.2.2.2 l _ _ _ hq) mu64 mu65 mu66 mu67 mu3 rfl (k := 1) (by decide +kernel) (by decide) (ci := 11) rfl (q0 := 0) rfl rfl rfl (Nat.le_of_ble_eq_true rfl) dX11_statement_35 (by decide) (fun σ10 hq H locs hw => ?_)
    exact rtV hE hr hlk hw hq dX11_statement_38
/-! QueueBenchModel.outer()V -/
abbrev rm_X11_outer : Room := { frames := 2, cells := 0, slots := 0, locals := 46 }
def wp_X11_outer_b35  (Φ : S9 → Prop) (t0 : Int32) (σ : S9) : Prop := (t0 = 0 → wp_X11_statement σ (fun σ7 => Φ σ7)) ∧ (¬ t0 = 0 → vp_in (σ.1 3) 3002 ∧ ∀ x3 : Int32, x3 = (σ.2.1 2 ((σ.1 3)).toNatClampNeg) → vp_in x3 26 ∧ ((σ.2.1 15 (x3).toNatClampNeg) = 0 → wp_X11_code (11 : Int32) (0 : Int32) (-1 : Int32) σ (fun r6 σ1 => vp_in x3 26 ∧ ∀ σ2 : S9, σ2 = sA σ1 14 (upd (σ1.2.1 14) (x3).toNatClampNeg (σ1.1 11)) → ∀ σ3 : S9, σ3 = sF σ2 3 ((σ2.1 3) + (1 : Int32)) → wp_X11_come (18 : Int32) (((32 : Int32) * r6) + x3) σ3 (fun σ4 => wp_X11_come (3 : Int32) (0 : Int32) σ4 (fun σ5 => Φ σ5)))) ∧ (¬ (σ.2.1 15 (x3).toNatClampNeg) = 0 → wp_X11_fail (σ.1 3) σ (fun σ6 => Φ σ6)))
def wp_X11_outer_b34  (Φ : S9 → Prop)  (σ : S9) : Prop := wp_X11_outer_b35  Φ (0 : Int32) σ
def wp_X11_outer  (σ : S9) (Φ : S9 → Prop) : Prop := vp_in (σ.1 3) 3002 ∧ ((σ.2.1 1 ((σ.1 3)).toNatClampNeg) = (4 : Int32) → vp_in ((σ.1 3) + (1 : Int32)) 3002 ∧ ((σ.2.1 1 (((σ.1 3) + (1 : Int32))).toNatClampNeg) = (223 : Int32) → wp_X11_outer_b35  Φ (1 : Int32) σ) ∧ (¬ (σ.2.1 1 (((σ.1 3) + (1 : Int32))).toNatClampNeg) = (223 : Int32) → wp_X11_outer_b34  Φ σ)) ∧ (¬ (σ.2.1 1 ((σ.1 3)).toNatClampNeg) = (4 : Int32) → wp_X11_outer_b34  Φ σ)
theorem dX11_outer_0 : decode cX11_outer 0 = .ok (.aload_n 0, 1) := by decide +kernel
theorem dX11_outer_1 : decode cX11_outer 1 = .ok (.getfield 13, 3) := by decide +kernel
theorem dX11_outer_4 : decode cX11_outer 4 = .ok (.aload_n 0, 1) := by decide +kernel
theorem dX11_outer_5 : decode cX11_outer 5 = .ok (.getfield 125, 3) := by decide +kernel
theorem dX11_outer_8 : decode cX11_outer 8 = .ok (.iaload, 1) := by decide +kernel
theorem dX11_outer_9 : decode cX11_outer 9 = .ok (.iconst 4, 1) := by decide +kernel
theorem dX11_outer_10 : decode cX11_outer 10 = .ok (.if_icmp .ne 24, 3) := by decide +kernel
theorem dX11_outer_13 : decode cX11_outer 13 = .ok (.aload_n 0, 1) := by decide +kernel
theorem dX11_outer_14 : decode cX11_outer 14 = .ok (.getfield 13, 3) := by decide +kernel
theorem dX11_outer_17 : decode cX11_outer 17 = .ok (.aload_n 0, 1) := by decide +kernel
theorem dX11_outer_18 : decode cX11_outer 18 = .ok (.getfield 125, 3) := by decide +kernel
theorem dX11_outer_21 : decode cX11_outer 21 = .ok (.iconst 1, 1) := by decide +kernel
theorem dX11_outer_22 : decode cX11_outer 22 = .ok (.iadd, 1) := by decide +kernel
theorem dX11_outer_23 : decode cX11_outer 23 = .ok (.iaload, 1) := by decide +kernel
theorem dX11_outer_24 : decode cX11_outer 24 = .ok (.sipush 223, 3) := by decide +kernel
theorem dX11_outer_27 : decode cX11_outer 27 = .ok (.if_icmp .ne 7, 3) := by decide +kernel
theorem dX11_outer_30 : decode cX11_outer 30 = .ok (.iconst 1, 1) := by decide +kernel
theorem dX11_outer_31 : decode cX11_outer 31 = .ok (.goto 4, 3) := by decide +kernel
theorem dX11_outer_34 : decode cX11_outer 34 = .ok (.iconst 0, 1) := by decide +kernel
theorem dX11_outer_35 : decode cX11_outer 35 = .ok (.istore_n 1, 1) := by decide +kernel
theorem dX11_outer_36 : decode cX11_outer 36 = .ok (.iload_n 1, 1) := by decide +kernel
theorem dX11_outer_37 : decode cX11_outer 37 = .ok (.ifCond .ne 8, 3) := by decide +kernel
theorem dX11_outer_40 : decode cX11_outer 40 = .ok (.aload_n 0, 1) := by decide +kernel
theorem dX11_outer_41 : decode cX11_outer 41 = .ok (.invokevirtual 166, 3) := by decide +kernel
theorem dX11_outer_44 : decode cX11_outer 44 = .ok (.return_, 1) := by decide +kernel
theorem dX11_outer_45 : decode cX11_outer 45 = .ok (.aload_n 0, 1) := by decide +kernel
theorem dX11_outer_46 : decode cX11_outer 46 = .ok (.getfield 16, 3) := by decide +kernel
theorem dX11_outer_49 : decode cX11_outer 49 = .ok (.aload_n 0, 1) := by decide +kernel
theorem dX11_outer_50 : decode cX11_outer 50 = .ok (.getfield 125, 3) := by decide +kernel
theorem dX11_outer_53 : decode cX11_outer 53 = .ok (.iaload, 1) := by decide +kernel
theorem dX11_outer_54 : decode cX11_outer 54 = .ok (.istore_n 2, 1) := by decide +kernel
theorem dX11_outer_55 : decode cX11_outer 55 = .ok (.aload_n 0, 1) := by decide +kernel
theorem dX11_outer_56 : decode cX11_outer 56 = .ok (.getfield 55, 3) := by decide +kernel
theorem dX11_outer_59 : decode cX11_outer 59 = .ok (.iload_n 2, 1) := by decide +kernel
theorem dX11_outer_60 : decode cX11_outer 60 = .ok (.baload, 1) := by decide +kernel
theorem dX11_outer_61 : decode cX11_outer 61 = .ok (.ifCond .eq 12, 3) := by decide +kernel
theorem dX11_outer_64 : decode cX11_outer 64 = .ok (.aload_n 0, 1) := by decide +kernel
theorem dX11_outer_65 : decode cX11_outer 65 = .ok (.aload_n 0, 1) := by decide +kernel
theorem dX11_outer_66 : decode cX11_outer 66 = .ok (.getfield 125, 3) := by decide +kernel
theorem dX11_outer_69 : decode cX11_outer 69 = .ok (.invokevirtual 153, 3) := by decide +kernel
theorem dX11_outer_72 : decode cX11_outer 72 = .ok (.return_, 1) := by decide +kernel
theorem dX11_outer_73 : decode cX11_outer 73 = .ok (.aload_n 0, 1) := by decide +kernel
theorem dX11_outer_74 : decode cX11_outer 74 = .ok (.bipush 11, 2) := by decide +kernel
theorem dX11_outer_76 : decode cX11_outer 76 = .ok (.iconst 0, 1) := by decide +kernel
theorem dX11_outer_77 : decode cX11_outer 77 = .ok (.iconst (-1), 1) := by decide +kernel
theorem dX11_outer_78 : decode cX11_outer 78 = .ok (.invokevirtual 159, 3) := by decide +kernel
theorem dX11_outer_81 : decode cX11_outer 81 = .ok (.istore_n 3, 1) := by decide +kernel
theorem dX11_outer_82 : decode cX11_outer 82 = .ok (.aload_n 0, 1) := by decide +kernel
theorem dX11_outer_83 : decode cX11_outer 83 = .ok (.getfield 52, 3) := by decide +kernel
theorem dX11_outer_86 : decode cX11_outer 86 = .ok (.iload_n 2, 1) := by decide +kernel
theorem dX11_outer_87 : decode cX11_outer 87 = .ok (.aload_n 0, 1) := by decide +kernel
theorem dX11_outer_88 : decode cX11_outer 88 = .ok (.getfield 134, 3) := by decide +kernel
theorem dX11_outer_91 : decode cX11_outer 91 = .ok (.iastore, 1) := by decide +kernel
theorem dX11_outer_92 : decode cX11_outer 92 = .ok (.aload_n 0, 1) := by decide +kernel
theorem dX11_outer_93 : decode cX11_outer 93 = .ok (.dup, 1) := by decide +kernel
theorem dX11_outer_94 : decode cX11_outer 94 = .ok (.getfield 125, 3) := by decide +kernel
theorem dX11_outer_97 : decode cX11_outer 97 = .ok (.iconst 1, 1) := by decide +kernel
theorem dX11_outer_98 : decode cX11_outer 98 = .ok (.iadd, 1) := by decide +kernel
theorem dX11_outer_99 : decode cX11_outer 99 = .ok (.putfield 125, 3) := by decide +kernel
theorem dX11_outer_102 : decode cX11_outer 102 = .ok (.aload_n 0, 1) := by decide +kernel
theorem dX11_outer_103 : decode cX11_outer 103 = .ok (.bipush 18, 2) := by decide +kernel
theorem dX11_outer_105 : decode cX11_outer 105 = .ok (.bipush 32, 2) := by decide +kernel
theorem dX11_outer_107 : decode cX11_outer 107 = .ok (.iload_n 3, 1) := by decide +kernel
theorem dX11_outer_108 : decode cX11_outer 108 = .ok (.imul, 1) := by decide +kernel
theorem dX11_outer_109 : decode cX11_outer 109 = .ok (.iload_n 2, 1) := by decide +kernel
theorem dX11_outer_110 : decode cX11_outer 110 = .ok (.iadd, 1) := by decide +kernel
theorem dX11_outer_111 : decode cX11_outer 111 = .ok (.invokevirtual 162, 3) := by decide +kernel
theorem dX11_outer_114 : decode cX11_outer 114 = .ok (.aload_n 0, 1) := by decide +kernel
theorem dX11_outer_115 : decode cX11_outer 115 = .ok (.iconst 3, 1) := by decide +kernel
theorem dX11_outer_116 : decode cX11_outer 116 = .ok (.iconst 0, 1) := by decide +kernel
theorem dX11_outer_117 : decode cX11_outer 117 = .ok (.invokevirtual 162, 3) := by decide +kernel
theorem dX11_outer_120 : decode cX11_outer 120 = .ok (.return_, 1) := by decide +kernel
set_option maxRecDepth 20000 in
set_option maxHeartbeats 4000000 in
theorem tb_X11_outer_b35 {p : Program} {l : Launch} {e : Env} {s : State} {m : MethodId} {args : Array Value} {below : List Frame} {meth : Method} {c : Code} {G : GG} {Φ : S9 → Prop}  (hE : Ev 27 G p s m args c cX11_outer RX11) (hml : c.maxLocals = 4) (hr : meth.sig.returnType = none) (hlk : meth.locks = false)  {t0 : Int32} {σ : S9} {H : Heap} {locs : List Loc} {ls : Array Slot} (hq : wp_X11_outer_b35  Φ t0 σ) (hw : Pic mwl 27 G σ s.heap H locs) (hl : lv_has ls 4 [(0, .ref (gAd G 0))]) : W p l e rm_X11_outer s m args below meth c H locs 0 0 (QV mwl 27 G below args s Φ) (F0 m 35 ls [.int t0]) := by
  unfold wp_X11_outer_b35 at hq
  refine lv_istore_n (lv' := [(1, .int t0), (0, .ref (gAd G 0))]) hE.1 hE.2.1 dX11_outer_35 rfl hl (by decide) rfl (fun ls hl => ?_)
  refine lv_iload_n hE.1 hE.2.1 dX11_outer_36 rfl (lv_at hl 0 rfl) ?_
  refine lv_if_ne (tgt := 45) hE.1 hE.2.1 dX11_outer_37 (by decide) (fun c1 => ?_) (fun c1 => ?_)
  · have hq := hq.2 c1
    refine lv_aload_n hE.1 hE.2.1 dX11_outer_45 rfl (lv_at hl 1 rfl) ?_
    refine mgf_X11_16 hE hw dX11_outer_46 ?_
    refine lv_aload_n hE.1 hE.2.1 dX11_outer_49 rfl (lv_at hl 1 rfl) ?_
    refine mgf_X11_125 hE hw dX11_outer_50 ?_
    obtain ⟨hi2, hq⟩ := hq
    refine mal_3 hE hw hi2 dX11_outer_53 ?_
    refine lv_topi (fun x3 ex3 => ?_)
    have hq := hq x3 ex3
    refine lv_istore_n (lv' := [(2, .int x3), (1, .int t0), (0, .ref (gAd G 0))]) hE.1 hE.2.1 dX11_outer_54 rfl hl (by decide) rfl (fun ls hl => ?_)
    refine lv_aload_n hE.1 hE.2.1 dX11_outer_55 rfl (lv_at hl 2 rfl) ?_
    refine mgf_X11_55 hE hw dX11_outer_56 ?_
    refine lv_iload_n hE.1 hE.2.1 dX11_outer_59 rfl (lv_at hl 0 rfl) ?_
    obtain ⟨hi4, hq⟩ := hq
    refine mal_16 hE hw hi4 dX11_outer_60 ?_
    refine lv_if_eq (tgt := 73) hE.1 hE.2.1 dX11_outer_61 (by decide) (fun c5 => ?_) (fun c5 => ?_)
    · have hq := hq.1 c5
      refine lv_aload_n hE.1 hE.2.1 dX11_outer_73 rfl (lv_at hl 2 rfl) ?_
      refine lv_bipush (v := (11 : Int32)) hE.1 hE.2.1 dX11_outer_74 (by decide) ?_
      refine lv_iconst (v := (0 : Int32)) hE.1 hE.2.1 dX11_outer_76 (by decide) ?_
      refine lv_iconst (v := (-1 : Int32)) hE.1 hE.2.1 dX11_outer_77 (by decide) ?_
      refine clVi (rest := []) (As := [.int (11 : Int32), .int (0 : Int32), .int (-1 : Int32)]) hE hml hl.1 hw (c_X11_code hE.2.2.2.2.2 l _ _ _ _ _ hq) mu56 mu57 mu58 mu59 mu3 rfl (k := 3) (by decide +kernel) (by decide) (ci := 11) rfl (q0 := 0) rfl rfl rfl (Nat.le_of_ble_eq_true rfl) dX11_outer_78 (by decide) (fun r6 σ1 hq H locs hw => ?_)
      refine lv_istore_n (lv' := [(3, .int r6), (2, .int x3), (1, .int t0), (0, .ref (gAd G 0))]) hE.1 hE.2.1 dX11_outer_81 rfl hl (by decide) rfl (fun ls hl => ?_)
      refine lv_aload_n hE.1 hE.2.1 dX11_outer_82 rfl (lv_at hl 3 rfl) ?_
      refine mgf_X11_52 hE hw dX11_outer_83 ?_
      refine lv_iload_n hE.1 hE.2.1 dX11_outer_86 rfl (lv_at hl 1 rfl) ?_
      refine lv_aload_n hE.1 hE.2.1 dX11_outer_87 rfl (lv_at hl 3 rfl) ?_
      refine mgf_X11_134 hE hw dX11_outer_88 ?_
      obtain ⟨hi7, hq⟩ := hq
      refine mas_15 hE hw hi7 dX11_outer_91 (fun σ2 eσ2 H locs hw => ?_)
      have hq := hq σ2 eσ2
      refine lv_aload_n hE.1 hE.2.1 dX11_outer_92 rfl (lv_at hl 3 rfl) ?_
      refine lv_dup hE.1 hE.2.1 dX11_outer_93 rfl ?_
      refine mgf_X11_125 hE hw dX11_outer_94 ?_
      refine lv_iconst (v := (1 : Int32)) hE.1 hE.2.1 dX11_outer_97 (by decide) ?_
      refine lv_iadd hE.1 hE.2.1 dX11_outer_98 ?_
      refine mpf_X11_125 hE hw dX11_outer_99 (fun σ3 eσ3 H locs hw => ?_)
      have hq := hq σ3 eσ3
      refine lv_aload_n hE.1 hE.2.1 dX11_outer_102 rfl (lv_at hl 3 rfl) ?_
      refine lv_bipush (v := (18 : Int32)) hE.1 hE.2.1 dX11_outer_103 (by decide) ?_
      refine lv_bipush (v := (32 : Int32)) hE.1 hE.2.1 dX11_outer_105 (by decide) ?_
      refine lv_iload_n hE.1 hE.2.1 dX11_outer_107 rfl (lv_at hl 0 rfl) ?_
      refine lv_imul hE.1 hE.2.1 dX11_outer_108 ?_
      refine lv_iload_n hE.1 hE.2.1 dX11_outer_109 rfl (lv_at hl 1 rfl) ?_
      refine lv_iadd hE.1 hE.2.1 dX11_outer_110 ?_
      refine clVv (rest := []) (As := [.int (18 : Int32), .int (((32 : Int32) * r6) + x3)]) hE hml hl.1 hw (c_X11_come hE.2.2.2.2.2 l _ _ _ _ hq) mu45 mu46 mu47 mu48 mu3 rfl (k := 2) (by decide +kernel) (by decide) (ci := 11) rfl (q0 := 0) rfl rfl rfl (Nat.le_of_ble_eq_true rfl) dX11_outer_111 (by decide) (fun σ4 hq H locs hw => ?_)
      refine lv_aload_n hE.1 hE.2.1 dX11_outer_114 rfl (lv_at hl 3 rfl) ?_
      refine lv_iconst (v := (3 : Int32)) hE.1 hE.2.1 dX11_outer_115 (by decide) ?_
      refine lv_iconst (v := (0 : Int32)) hE.1 hE.2.1 dX11_outer_116 (by decide) ?_
      refine clVv (rest := []) (As := [.int (3 : Int32), .int (0 : Int32)]) hE hml hl.1 hw (c_X11_come hE.2.2.2.2.2 l _ _ _ _ hq) mu45 mu46 mu47 mu48 mu3 rfl (k := 2) (by decide +kernel) (by decide) (ci := 11) rfl (q0 := 0) rfl rfl rfl (Nat.le_of_ble_eq_true rfl) dX11_outer_117 (by decide) (fun σ5 hq H locs hw => ?_)
      exact rtV hE hr hlk hw hq dX11_outer_120
    · have hq := hq.2 c5
      refine lv_aload_n hE.1 hE.2.1 dX11_outer_64 rfl (lv_at hl 2 rfl) ?_
      refine lv_aload_n hE.1 hE.2.1 dX11_outer_65 rfl (lv_at hl 2 rfl) ?_
      refine mgf_X11_125 hE hw dX11_outer_66 ?_
      refine clVv (rest := []) (As := [.int (σ.1 3)]) hE hml hl.1 hw (c_X11_fail hE.2.2.2.2.2 l _ _ _ hq) mu64 mu65 mu66 mu67 mu3 rfl (k := 1) (by decide +kernel) (by decide) (ci := 11) rfl (q0 := 0) rfl rfl rfl (Nat.le_of_ble_eq_true rfl) dX11_outer_69 (by decide) (fun σ6 hq H locs hw => ?_)
      exact rtV hE hr hlk hw hq dX11_outer_72
  · have hq := hq.1 c1
    refine lv_aload_n hE.1 hE.2.1 dX11_outer_40 rfl (lv_at hl 1 rfl) ?_
    refine clVv (rest := []) (As := []) hE hml hl.1 hw (c_X11_statement hE.2.2.2.2.2 l _ _ hq) mu102 mu103 mu104 mu105 mu3 rfl (k := 0) (by decide +kernel) (by decide) (ci := 11) rfl (q0 := 0) rfl rfl rfl (Nat.le_of_ble_eq_true rfl) dX11_outer_41 (by decide) (fun σ7 hq H locs hw => ?_)
    exact rtV hE hr hlk hw hq dX11_outer_44
set_option maxRecDepth 20000 in
set_option maxHeartbeats 4000000 in
theorem tb_X11_outer_b34 {p : Program} {l : Launch} {e : Env} {s : State} {m : MethodId} {args : Array Value} {below : List Frame} {meth : Method} {c : Code} {G : GG} {Φ : S9 → Prop}  (hE : Ev 27 G p s m args c cX11_outer RX11) (hml : c.maxLocals = 4) (hr : meth.sig.returnType = none) (hlk : meth.locks = false)   {σ : S9} {H : Heap} {locs : List Loc} {ls : Array Slot} (hq : wp_X11_outer_b34  Φ  σ) (hw : Pic mwl 27 G σ s.heap H locs) (hl : lv_has ls 4 [(0, .ref (gAd G 0))]) : W p l e rm_X11_outer s m args below meth c H locs 0 0 (QV mwl 27 G below args s Φ) (F0 m 34 ls []) := by
  unfold wp_X11_outer_b34 at hq
  refine lv_iconst (v := (0 : Int32)) hE.1 hE.2.1 dX11_outer_34 (by decide) ?_
  exact tb_X11_outer_b35 hE hml hr hlk  hq hw (lv_sub hl [0] rfl)
set_option maxRecDepth 20000 in
set_option maxHeartbeats 4000000 in
theorem c_X11_outer {G : GG} (hJ : gJ 27 G) (l : Launch)  (σ : S9) (Φ : S9 → Prop) (hq : wp_X11_outer  σ Φ) : CV mwl 27 G l yX11_outer cX11_outer 4 rm_X11_outer [.ref (gAd G 0)] σ Φ := by
  refine CV.intro (by decide) (Nat.le_of_ble_eq_true rfl) hJ ?_
  intro p e s m args below meth c ls hE hml hr hlk hw hl
  have hl : lv_has ls 4 [(0, .ref (gAd G 0))] := hl
  unfold wp_X11_outer at hq
  refine lv_aload_n hE.1 hE.2.1 dX11_outer_0 rfl (lv_at hl 0 rfl) ?_
  refine mgf_X11_13 hE hw dX11_outer_1 ?_
  refine lv_aload_n hE.1 hE.2.1 dX11_outer_4 rfl (lv_at hl 0 rfl) ?_
  refine mgf_X11_125 hE hw dX11_outer_5 ?_
  obtain ⟨hi1, hq⟩ := hq
  refine mal_2 hE hw hi1 dX11_outer_8 ?_
  refine lv_iconst (v := (4 : Int32)) hE.1 hE.2.1 dX11_outer_9 (by decide) ?_
  refine lv_icmp_ne (tgt := 34) hE.1 hE.2.1 dX11_outer_10 (by decide) (fun c2 => ?_) (fun c2 => ?_)
  · have hq := hq.2 c2
    exact tb_X11_outer_b34 hE hml hr hlk  hq hw (lv_sub hl [0] rfl)
  · have hq := hq.1 c2
    refine lv_aload_n hE.1 hE.2.1 dX11_outer_13 rfl (lv_at hl 0 rfl) ?_
    refine mgf_X11_13 hE hw dX11_outer_14 ?_
    refine lv_aload_n hE.1 hE.2.1 dX11_outer_17 rfl (lv_at hl 0 rfl) ?_
    refine mgf_X11_125 hE hw dX11_outer_18 ?_
    refine lv_iconst (v := (1 : Int32)) hE.1 hE.2.1 dX11_outer_21 (by decide) ?_
    refine lv_iadd hE.1 hE.2.1 dX11_outer_22 ?_
    obtain ⟨hi3, hq⟩ := hq
    refine mal_2 hE hw hi3 dX11_outer_23 ?_
    refine lv_sipush (v := (223 : Int32)) hE.1 hE.2.1 dX11_outer_24 (by decide) ?_
    refine lv_icmp_ne (tgt := 34) hE.1 hE.2.1 dX11_outer_27 (by decide) (fun c4 => ?_) (fun c4 => ?_)
    · have hq := hq.2 c4
      exact tb_X11_outer_b34 hE hml hr hlk  hq hw (lv_sub hl [0] rfl)
    · have hq := hq.1 c4
      refine lv_iconst (v := (1 : Int32)) hE.1 hE.2.1 dX11_outer_30 (by decide) ?_
      refine lv_goto (tgt := 35) hE.1 hE.2.1 dX11_outer_31 (by decide) ?_
      exact tb_X11_outer_b35 hE hml hr hlk  hq hw (lv_sub hl [0] rfl)
/-! QueueBenchModel.doOuter(II)V -/
abbrev rm_X11_doOuter : Room := { frames := 3, cells := 0, slots := 0, locals := 69 }
def wp_X11_doOuter_b171  (Φ : S9 → Prop)  (σ : S9) : Prop := wp_X11_expect (123 : Int32) σ (fun σ1 => ∀ σ2 : S9, σ2 = sF σ1 6 ((σ1.1 6) + (1 : Int32)) → wp_X11_come (2 : Int32) (0 : Int32) σ2 (fun σ3 => Φ σ3))
def wp_X11_doOuter (a1 : Int32) (a2 : Int32) (σ : S9) (Φ : S9 → Prop) : Prop := (a1 = (1 : Int32) → vp_in (σ.1 3) 3002 ∧ ((σ.2.1 1 ((σ.1 3)).toNatClampNeg) = 0 → Φ σ) ∧ (¬ (σ.2.1 1 ((σ.1 3)).toNatClampNeg) = 0 → wp_X11_come (1 : Int32) (0 : Int32) σ (fun σ1 => wp_X11_outer σ1 (fun σ2 => Φ σ2)))) ∧ (¬ a1 = (1 : Int32) → (a1 = (2 : Int32) → wp_X11_sees (125 : Int32) σ (fun r5 σ3 => (r5 = 0 → wp_X11_come (2 : Int32) (0 : Int32) σ3 (fun σ4 => wp_X11_statement σ4 (fun σ5 => Φ σ5))) ∧ (¬ r5 = 0 → ∀ σ6 : S9, σ6 = sF σ3 3 ((σ3.1 3) + (1 : Int32)) → ∀ σ7 : S9, σ7 = sF σ6 6 ((σ6.1 6) - (1 : Int32)) → Φ σ7))) ∧ (¬ a1 = (2 : Int32) → (a1 = (3 : Int32) → ((σ.1 6) = (20 : Int32) → wp_X11_fail (σ.1 3) σ (fun σ8 => wp_X11_doOuter_b171  Φ σ8)) ∧ (¬ (σ.1 6) = (20 : Int32) → wp_X11_doOuter_b171  Φ σ)) ∧ (¬ a1 = (3 : Int32) → (a1 = (14 : Int32) → vp_in a2 1200 ∧ ∀ σ9 : S9, σ9 = sA σ 9 (upd (σ.2.1 9) (a2).toNatClampNeg (σ.1 12)) → vp_in a2 1200 ∧ ∀ σ10 : S9, σ10 = sA σ9 11 (upd (σ9.2.1 11) (a2).toNatClampNeg (σ9.1 14)) → Φ σ10) ∧ (¬ a1 = (14 : Int32) → (a1 = (15 : Int32) → wp_X11_sees (58 : Int32) σ (fun r13 σ11 => (r13 = 0 → vp_in a2 1200 ∧ ∀ σ12 : S9, σ12 = sA σ11 7 (upd (σ11.2.1 7) (a2).toNatClampNeg (σ11.1 11)) → Φ σ12) ∧ (¬ r13 = 0 → ∀ σ13 : S9, σ13 = sF σ11 3 ((σ11.1 3) + (1 : Int32)) → wp_X11_code (11 : Int32) (0 : Int32) (-1 : Int32) σ13 (fun r16 σ14 => wp_X11_come (16 : Int32) r16 σ14 (fun σ15 => wp_X11_come (3 : Int32) (0 : Int32) σ15 (fun σ16 => vp_in a2 1200 ∧ ∀ σ17 : S9, σ17 = sA σ16 7 (upd (σ16.2.1 7) (a2).toNatClampNeg (σ16.1 11)) → Φ σ17)))))) ∧ (¬ a1 = (15 : Int32) → (a1 = (16 : Int32) → vp_in a2 1200 ∧ ∀ σ18 : S9, σ18 = sA σ 7 (upd (σ.2.1 7) (a2).toNatClampNeg (σ.1 11)) → Φ σ18) ∧ (¬ a1 = (16 : Int32) → (a1 = (17 : Int32) → wp_X11_code (11 : Int32) a2 (-1 : Int32) σ (fun r21 σ19 => vp_in a2 1200 ∧ ∀ σ20 : S9, σ20 = sA σ19 7 (upd (σ19.2.1 7) (a2).toNatClampNeg (σ19.1 11)) → Φ σ20)) ∧ (¬ a1 = (17 : Int32) → wp_X11_code (12 : Int32) (0 : Int32) (-1 : Int32) σ (fun r23 σ21 => vp_in (a2 / (32 : Int32)) 1200 ∧ ∀ σ22 : S9, σ22 = sA σ21 7 (upd (σ21.2.1 7) ((a2 / (32 : Int32))).toNatClampNeg (σ21.1 11)) → vp_in (a2 - a2 / (32 : Int32) * (32 : Int32)) 26 ∧ ∀ σ23 : S9, σ23 = sA σ22 15 (upd (σ22.2.1 15) ((a2 - a2 / (32 : Int32) * (32 : Int32))).toNatClampNeg (vp_nar .boolean (1 : Int32))) → ∀ σ24 : S9, σ24 = sF σ23 13 ((σ23.1 13) + (1 : Int32)) → Φ σ24))))))))
theorem dX11_doOuter_0 : decode cX11_doOuter 0 = .ok (.iload_n 1, 1) := by decide +kernel
theorem dX11_doOuter_1 : decode cX11_doOuter 1 = .ok (.tableswitch 307 1 17 #[83, 108, 153, 307, 307, 307, 307, 307, 307, 307, 307, 307, 307, 195, 218, 272, 285], 83) := by decide +kernel
theorem dX11_doOuter_84 : decode cX11_doOuter 84 = .ok (.aload_n 0, 1) := by decide +kernel
theorem dX11_doOuter_85 : decode cX11_doOuter 85 = .ok (.getfield 13, 3) := by decide +kernel
theorem dX11_doOuter_88 : decode cX11_doOuter 88 = .ok (.aload_n 0, 1) := by decide +kernel
theorem dX11_doOuter_89 : decode cX11_doOuter 89 = .ok (.getfield 125, 3) := by decide +kernel
theorem dX11_doOuter_92 : decode cX11_doOuter 92 = .ok (.iaload, 1) := by decide +kernel
theorem dX11_doOuter_93 : decode cX11_doOuter 93 = .ok (.ifCond .eq 258, 3) := by decide +kernel
theorem dX11_doOuter_96 : decode cX11_doOuter 96 = .ok (.aload_n 0, 1) := by decide +kernel
theorem dX11_doOuter_97 : decode cX11_doOuter 97 = .ok (.iconst 1, 1) := by decide +kernel
theorem dX11_doOuter_98 : decode cX11_doOuter 98 = .ok (.iconst 0, 1) := by decide +kernel
theorem dX11_doOuter_99 : decode cX11_doOuter 99 = .ok (.invokevirtual 162, 3) := by decide +kernel
theorem dX11_doOuter_102 : decode cX11_doOuter 102 = .ok (.aload_n 0, 1) := by decide +kernel
theorem dX11_doOuter_103 : decode cX11_doOuter 103 = .ok (.invokevirtual 179, 3) := by decide +kernel
theorem dX11_doOuter_106 : decode cX11_doOuter 106 = .ok (.goto 245, 3) := by decide +kernel
theorem dX11_doOuter_109 : decode cX11_doOuter 109 = .ok (.aload_n 0, 1) := by decide +kernel
theorem dX11_doOuter_110 : decode cX11_doOuter 110 = .ok (.bipush 125, 2) := by decide +kernel
theorem dX11_doOuter_112 : decode cX11_doOuter 112 = .ok (.invokevirtual 175, 3) := by decide +kernel
theorem dX11_doOuter_115 : decode cX11_doOuter 115 = .ok (.ifCond .eq 26, 3) := by decide +kernel
theorem dX11_doOuter_118 : decode cX11_doOuter 118 = .ok (.aload_n 0, 1) := by decide +kernel
theorem dX11_doOuter_119 : decode cX11_doOuter 119 = .ok (.dup, 1) := by decide +kernel
theorem dX11_doOuter_120 : decode cX11_doOuter 120 = .ok (.getfield 125, 3) := by decide +kernel
theorem dX11_doOuter_123 : decode cX11_doOuter 123 = .ok (.iconst 1, 1) := by decide +kernel
theorem dX11_doOuter_124 : decode cX11_doOuter 124 = .ok (.iadd, 1) := by decide +kernel
theorem dX11_doOuter_125 : decode cX11_doOuter 125 = .ok (.putfield 125, 3) := by decide +kernel
theorem dX11_doOuter_128 : decode cX11_doOuter 128 = .ok (.aload_n 0, 1) := by decide +kernel
theorem dX11_doOuter_129 : decode cX11_doOuter 129 = .ok (.dup, 1) := by decide +kernel
theorem dX11_doOuter_130 : decode cX11_doOuter 130 = .ok (.getfield 182, 3) := by decide +kernel
theorem dX11_doOuter_133 : decode cX11_doOuter 133 = .ok (.iconst 1, 1) := by decide +kernel
theorem dX11_doOuter_134 : decode cX11_doOuter 134 = .ok (.isub, 1) := by decide +kernel
theorem dX11_doOuter_135 : decode cX11_doOuter 135 = .ok (.putfield 182, 3) := by decide +kernel
theorem dX11_doOuter_138 : decode cX11_doOuter 138 = .ok (.goto 213, 3) := by decide +kernel
theorem dX11_doOuter_141 : decode cX11_doOuter 141 = .ok (.aload_n 0, 1) := by decide +kernel
theorem dX11_doOuter_142 : decode cX11_doOuter 142 = .ok (.iconst 2, 1) := by decide +kernel
theorem dX11_doOuter_143 : decode cX11_doOuter 143 = .ok (.iconst 0, 1) := by decide +kernel
theorem dX11_doOuter_144 : decode cX11_doOuter 144 = .ok (.invokevirtual 162, 3) := by decide +kernel
theorem dX11_doOuter_147 : decode cX11_doOuter 147 = .ok (.aload_n 0, 1) := by decide +kernel
theorem dX11_doOuter_148 : decode cX11_doOuter 148 = .ok (.invokevirtual 166, 3) := by decide +kernel
theorem dX11_doOuter_151 : decode cX11_doOuter 151 = .ok (.goto 200, 3) := by decide +kernel
theorem dX11_doOuter_154 : decode cX11_doOuter 154 = .ok (.aload_n 0, 1) := by decide +kernel
theorem dX11_doOuter_155 : decode cX11_doOuter 155 = .ok (.getfield 182, 3) := by decide +kernel
theorem dX11_doOuter_158 : decode cX11_doOuter 158 = .ok (.bipush 20, 2) := by decide +kernel
theorem dX11_doOuter_160 : decode cX11_doOuter 160 = .ok (.if_icmp .ne 11, 3) := by decide +kernel
theorem dX11_doOuter_163 : decode cX11_doOuter 163 = .ok (.aload_n 0, 1) := by decide +kernel
theorem dX11_doOuter_164 : decode cX11_doOuter 164 = .ok (.aload_n 0, 1) := by decide +kernel
theorem dX11_doOuter_165 : decode cX11_doOuter 165 = .ok (.getfield 125, 3) := by decide +kernel
theorem dX11_doOuter_168 : decode cX11_doOuter 168 = .ok (.invokevirtual 153, 3) := by decide +kernel
theorem dX11_doOuter_171 : decode cX11_doOuter 171 = .ok (.aload_n 0, 1) := by decide +kernel
theorem dX11_doOuter_172 : decode cX11_doOuter 172 = .ok (.bipush 123, 2) := by decide +kernel
theorem dX11_doOuter_174 : decode cX11_doOuter 174 = .ok (.invokevirtual 185, 3) := by decide +kernel
theorem dX11_doOuter_177 : decode cX11_doOuter 177 = .ok (.aload_n 0, 1) := by decide +kernel
theorem dX11_doOuter_178 : decode cX11_doOuter 178 = .ok (.dup, 1) := by decide +kernel
theorem dX11_doOuter_179 : decode cX11_doOuter 179 = .ok (.getfield 182, 3) := by decide +kernel
theorem dX11_doOuter_182 : decode cX11_doOuter 182 = .ok (.iconst 1, 1) := by decide +kernel
theorem dX11_doOuter_183 : decode cX11_doOuter 183 = .ok (.iadd, 1) := by decide +kernel
theorem dX11_doOuter_184 : decode cX11_doOuter 184 = .ok (.putfield 182, 3) := by decide +kernel
theorem dX11_doOuter_187 : decode cX11_doOuter 187 = .ok (.aload_n 0, 1) := by decide +kernel
theorem dX11_doOuter_188 : decode cX11_doOuter 188 = .ok (.iconst 2, 1) := by decide +kernel
theorem dX11_doOuter_189 : decode cX11_doOuter 189 = .ok (.iconst 0, 1) := by decide +kernel
theorem dX11_doOuter_190 : decode cX11_doOuter 190 = .ok (.invokevirtual 162, 3) := by decide +kernel
theorem dX11_doOuter_193 : decode cX11_doOuter 193 = .ok (.goto 158, 3) := by decide +kernel
theorem dX11_doOuter_196 : decode cX11_doOuter 196 = .ok (.aload_n 0, 1) := by decide +kernel
theorem dX11_doOuter_197 : decode cX11_doOuter 197 = .ok (.getfield 37, 3) := by decide +kernel
theorem dX11_doOuter_200 : decode cX11_doOuter 200 = .ok (.iload_n 2, 1) := by decide +kernel
theorem dX11_doOuter_201 : decode cX11_doOuter 201 = .ok (.aload_n 0, 1) := by decide +kernel
theorem dX11_doOuter_202 : decode cX11_doOuter 202 = .ok (.getfield 137, 3) := by decide +kernel
theorem dX11_doOuter_205 : decode cX11_doOuter 205 = .ok (.iastore, 1) := by decide +kernel
theorem dX11_doOuter_206 : decode cX11_doOuter 206 = .ok (.aload_n 0, 1) := by decide +kernel
theorem dX11_doOuter_207 : decode cX11_doOuter 207 = .ok (.getfield 43, 3) := by decide +kernel
theorem dX11_doOuter_210 : decode cX11_doOuter 210 = .ok (.iload_n 2, 1) := by decide +kernel
theorem dX11_doOuter_211 : decode cX11_doOuter 211 = .ok (.aload_n 0, 1) := by decide +kernel
theorem dX11_doOuter_212 : decode cX11_doOuter 212 = .ok (.getfield 140, 3) := by decide +kernel
theorem dX11_doOuter_215 : decode cX11_doOuter 215 = .ok (.iastore, 1) := by decide +kernel
theorem dX11_doOuter_216 : decode cX11_doOuter 216 = .ok (.goto 135, 3) := by decide +kernel
theorem dX11_doOuter_219 : decode cX11_doOuter 219 = .ok (.aload_n 0, 1) := by decide +kernel
theorem dX11_doOuter_220 : decode cX11_doOuter 220 = .ok (.bipush 58, 2) := by decide +kernel
theorem dX11_doOuter_222 : decode cX11_doOuter 222 = .ok (.invokevirtual 175, 3) := by decide +kernel
theorem dX11_doOuter_225 : decode cX11_doOuter 225 = .ok (.ifCond .eq 35, 3) := by decide +kernel
theorem dX11_doOuter_228 : decode cX11_doOuter 228 = .ok (.aload_n 0, 1) := by decide +kernel
theorem dX11_doOuter_229 : decode cX11_doOuter 229 = .ok (.dup, 1) := by decide +kernel
theorem dX11_doOuter_230 : decode cX11_doOuter 230 = .ok (.getfield 125, 3) := by decide +kernel
theorem dX11_doOuter_233 : decode cX11_doOuter 233 = .ok (.iconst 1, 1) := by decide +kernel
theorem dX11_doOuter_234 : decode cX11_doOuter 234 = .ok (.iadd, 1) := by decide +kernel
theorem dX11_doOuter_235 : decode cX11_doOuter 235 = .ok (.putfield 125, 3) := by decide +kernel
theorem dX11_doOuter_238 : decode cX11_doOuter 238 = .ok (.aload_n 0, 1) := by decide +kernel
theorem dX11_doOuter_239 : decode cX11_doOuter 239 = .ok (.bipush 11, 2) := by decide +kernel
theorem dX11_doOuter_241 : decode cX11_doOuter 241 = .ok (.iconst 0, 1) := by decide +kernel
theorem dX11_doOuter_242 : decode cX11_doOuter 242 = .ok (.iconst (-1), 1) := by decide +kernel
theorem dX11_doOuter_243 : decode cX11_doOuter 243 = .ok (.invokevirtual 159, 3) := by decide +kernel
theorem dX11_doOuter_246 : decode cX11_doOuter 246 = .ok (.istore_n 3, 1) := by decide +kernel
theorem dX11_doOuter_247 : decode cX11_doOuter 247 = .ok (.aload_n 0, 1) := by decide +kernel
theorem dX11_doOuter_248 : decode cX11_doOuter 248 = .ok (.bipush 16, 2) := by decide +kernel
theorem dX11_doOuter_250 : decode cX11_doOuter 250 = .ok (.iload_n 3, 1) := by decide +kernel
theorem dX11_doOuter_251 : decode cX11_doOuter 251 = .ok (.invokevirtual 162, 3) := by decide +kernel
theorem dX11_doOuter_254 : decode cX11_doOuter 254 = .ok (.aload_n 0, 1) := by decide +kernel
theorem dX11_doOuter_255 : decode cX11_doOuter 255 = .ok (.iconst 3, 1) := by decide +kernel
theorem dX11_doOuter_256 : decode cX11_doOuter 256 = .ok (.iconst 0, 1) := by decide +kernel
theorem dX11_doOuter_257 : decode cX11_doOuter 257 = .ok (.invokevirtual 162, 3) := by decide +kernel
theorem dX11_doOuter_260 : decode cX11_doOuter 260 = .ok (.aload_n 0, 1) := by decide +kernel
theorem dX11_doOuter_261 : decode cX11_doOuter 261 = .ok (.getfield 31, 3) := by decide +kernel
theorem dX11_doOuter_264 : decode cX11_doOuter 264 = .ok (.iload_n 2, 1) := by decide +kernel
theorem dX11_doOuter_265 : decode cX11_doOuter 265 = .ok (.aload_n 0, 1) := by decide +kernel
theorem dX11_doOuter_266 : decode cX11_doOuter 266 = .ok (.getfield 134, 3) := by decide +kernel
theorem dX11_doOuter_269 : decode cX11_doOuter 269 = .ok (.iastore, 1) := by decide +kernel
theorem dX11_doOuter_270 : decode cX11_doOuter 270 = .ok (.goto 81, 3) := by decide +kernel
theorem dX11_doOuter_273 : decode cX11_doOuter 273 = .ok (.aload_n 0, 1) := by decide +kernel
theorem dX11_doOuter_274 : decode cX11_doOuter 274 = .ok (.getfield 31, 3) := by decide +kernel
theorem dX11_doOuter_277 : decode cX11_doOuter 277 = .ok (.iload_n 2, 1) := by decide +kernel
theorem dX11_doOuter_278 : decode cX11_doOuter 278 = .ok (.aload_n 0, 1) := by decide +kernel
theorem dX11_doOuter_279 : decode cX11_doOuter 279 = .ok (.getfield 134, 3) := by decide +kernel
theorem dX11_doOuter_282 : decode cX11_doOuter 282 = .ok (.iastore, 1) := by decide +kernel
theorem dX11_doOuter_283 : decode cX11_doOuter 283 = .ok (.goto 68, 3) := by decide +kernel
theorem dX11_doOuter_286 : decode cX11_doOuter 286 = .ok (.aload_n 0, 1) := by decide +kernel
theorem dX11_doOuter_287 : decode cX11_doOuter 287 = .ok (.bipush 11, 2) := by decide +kernel
theorem dX11_doOuter_289 : decode cX11_doOuter 289 = .ok (.iload_n 2, 1) := by decide +kernel
theorem dX11_doOuter_290 : decode cX11_doOuter 290 = .ok (.iconst (-1), 1) := by decide +kernel
theorem dX11_doOuter_291 : decode cX11_doOuter 291 = .ok (.invokevirtual 159, 3) := by decide +kernel
theorem dX11_doOuter_294 : decode cX11_doOuter 294 = .ok (.istore_n 3, 1) := by decide +kernel
theorem dX11_doOuter_295 : decode cX11_doOuter 295 = .ok (.aload_n 0, 1) := by decide +kernel
theorem dX11_doOuter_296 : decode cX11_doOuter 296 = .ok (.getfield 31, 3) := by decide +kernel
theorem dX11_doOuter_299 : decode cX11_doOuter 299 = .ok (.iload_n 2, 1) := by decide +kernel
theorem dX11_doOuter_300 : decode cX11_doOuter 300 = .ok (.aload_n 0, 1) := by decide +kernel
theorem dX11_doOuter_301 : decode cX11_doOuter 301 = .ok (.getfield 134, 3) := by decide +kernel
theorem dX11_doOuter_304 : decode cX11_doOuter 304 = .ok (.iastore, 1) := by decide +kernel
theorem dX11_doOuter_305 : decode cX11_doOuter 305 = .ok (.goto 46, 3) := by decide +kernel
theorem dX11_doOuter_308 : decode cX11_doOuter 308 = .ok (.aload_n 0, 1) := by decide +kernel
theorem dX11_doOuter_309 : decode cX11_doOuter 309 = .ok (.bipush 12, 2) := by decide +kernel
theorem dX11_doOuter_311 : decode cX11_doOuter 311 = .ok (.iconst 0, 1) := by decide +kernel
theorem dX11_doOuter_312 : decode cX11_doOuter 312 = .ok (.iconst (-1), 1) := by decide +kernel
theorem dX11_doOuter_313 : decode cX11_doOuter 313 = .ok (.invokevirtual 159, 3) := by decide +kernel
theorem dX11_doOuter_316 : decode cX11_doOuter 316 = .ok (.istore 4, 2) := by decide +kernel
theorem dX11_doOuter_318 : decode cX11_doOuter 318 = .ok (.aload_n 0, 1) := by decide +kernel
theorem dX11_doOuter_319 : decode cX11_doOuter 319 = .ok (.getfield 31, 3) := by decide +kernel
theorem dX11_doOuter_322 : decode cX11_doOuter 322 = .ok (.iload_n 2, 1) := by decide +kernel
theorem dX11_doOuter_323 : decode cX11_doOuter 323 = .ok (.bipush 32, 2) := by decide +kernel
theorem dX11_doOuter_325 : decode cX11_doOuter 325 = .ok (.idiv, 1) := by decide +kernel
theorem dX11_doOuter_326 : decode cX11_doOuter 326 = .ok (.aload_n 0, 1) := by decide +kernel
theorem dX11_doOuter_327 : decode cX11_doOuter 327 = .ok (.getfield 134, 3) := by decide +kernel
theorem dX11_doOuter_330 : decode cX11_doOuter 330 = .ok (.iastore, 1) := by decide +kernel
theorem dX11_doOuter_331 : decode cX11_doOuter 331 = .ok (.aload_n 0, 1) := by decide +kernel
theorem dX11_doOuter_332 : decode cX11_doOuter 332 = .ok (.getfield 55, 3) := by decide +kernel
theorem dX11_doOuter_335 : decode cX11_doOuter 335 = .ok (.iload_n 2, 1) := by decide +kernel
theorem dX11_doOuter_336 : decode cX11_doOuter 336 = .ok (.bipush 32, 2) := by decide +kernel
theorem dX11_doOuter_338 : decode cX11_doOuter 338 = .ok (.irem, 1) := by decide +kernel
theorem dX11_doOuter_339 : decode cX11_doOuter 339 = .ok (.iconst 1, 1) := by decide +kernel
theorem dX11_doOuter_340 : decode cX11_doOuter 340 = .ok (.bastore, 1) := by decide +kernel
theorem dX11_doOuter_341 : decode cX11_doOuter 341 = .ok (.aload_n 0, 1) := by decide +kernel
theorem dX11_doOuter_342 : decode cX11_doOuter 342 = .ok (.dup, 1) := by decide +kernel
theorem dX11_doOuter_343 : decode cX11_doOuter 343 = .ok (.getfield 189, 3) := by decide +kernel
theorem dX11_doOuter_346 : decode cX11_doOuter 346 = .ok (.iconst 1, 1) := by decide +kernel
theorem dX11_doOuter_347 : decode cX11_doOuter 347 = .ok (.iadd, 1) := by decide +kernel
theorem dX11_doOuter_348 : decode cX11_doOuter 348 = .ok (.putfield 189, 3) := by decide +kernel
theorem dX11_doOuter_351 : decode cX11_doOuter 351 = .ok (.return_, 1) := by decide +kernel
set_option maxRecDepth 20000 in
set_option maxHeartbeats 4000000 in
theorem tb_X11_doOuter_b171 {p : Program} {l : Launch} {e : Env} {s : State} {m : MethodId} {args : Array Value} {below : List Frame} {meth : Method} {c : Code} {G : GG} {Φ : S9 → Prop}  (hE : Ev 27 G p s m args c cX11_doOuter RX11) (hml : c.maxLocals = 5) (hr : meth.sig.returnType = none) (hlk : meth.locks = false)   {σ : S9} {H : Heap} {locs : List Loc} {ls : Array Slot} (hq : wp_X11_doOuter_b171  Φ  σ) (hw : Pic mwl 27 G σ s.heap H locs) (hl : lv_has ls 5 [(0, .ref (gAd G 0))]) : W p l e rm_X11_doOuter s m args below meth c H locs 0 0 (QV mwl 27 G below args s Φ) (F0 m 171 ls []) := by
  unfold wp_X11_doOuter_b171 at hq
  refine lv_aload_n hE.1 hE.2.1 dX11_doOuter_171 rfl (lv_at hl 0 rfl) ?_
  refine lv_bipush (v := (123 : Int32)) hE.1 hE.2.1 dX11_doOuter_172 (by decide) ?_
  refine clVv (rest := []) (As := [.int (123 : Int32)]) hE hml hl.1 hw (c_X11_expect hE.2.2.2.2.2 l _ _ _ hq) mu68 mu69 mu70 mu71 mu3 rfl (k := 1) (by decide +kernel) (by decide) (ci := 11) rfl (q0 := 0) rfl rfl rfl (Nat.le_of_ble_eq_true rfl) dX11_doOuter_174 (by decide) (fun σ1 hq H locs hw => ?_)
  refine lv_aload_n hE.1 hE.2.1 dX11_doOuter_177 rfl (lv_at hl 0 rfl) ?_
  refine lv_dup hE.1 hE.2.1 dX11_doOuter_178 rfl ?_
  refine mgf_X11_182 hE hw dX11_doOuter_179 ?_
  refine lv_iconst (v := (1 : Int32)) hE.1 hE.2.1 dX11_doOuter_182 (by decide) ?_
  refine lv_iadd hE.1 hE.2.1 dX11_doOuter_183 ?_
  refine mpf_X11_182 hE hw dX11_doOuter_184 (fun σ2 eσ2 H locs hw => ?_)
  have hq := hq σ2 eσ2
  refine lv_aload_n hE.1 hE.2.1 dX11_doOuter_187 rfl (lv_at hl 0 rfl) ?_
  refine lv_iconst (v := (2 : Int32)) hE.1 hE.2.1 dX11_doOuter_188 (by decide) ?_
  refine lv_iconst (v := (0 : Int32)) hE.1 hE.2.1 dX11_doOuter_189 (by decide) ?_
  refine clVv (rest := []) (As := [.int (2 : Int32), .int (0 : Int32)]) hE hml hl.1 hw (c_X11_come hE.2.2.2.2.2 l _ _ _ _ hq) mu45 mu46 mu47 mu48 mu3 rfl (k := 2) (by decide +kernel) (by decide) (ci := 11) rfl (q0 := 0) rfl rfl rfl (Nat.le_of_ble_eq_true rfl) dX11_doOuter_190 (by decide) (fun σ3 hq H locs hw => ?_)
  refine lv_goto (tgt := 351) hE.1 hE.2.1 dX11_doOuter_193 (by decide) ?_
  exact rtV hE hr hlk hw hq dX11_doOuter_351
set_option maxRecDepth 20000 in
set_option maxHeartbeats 4000000 in
theorem c_X11_doOuter {G : GG} (hJ : gJ 27 G) (l : Launch) (a1 : Int32) (a2 : Int32) (σ : S9) (Φ : S9 → Prop) (hq : wp_X11_doOuter a1 a2 σ Φ) : CV mwl 27 G l yX11_doOuter cX11_doOuter 5 rm_X11_doOuter [.ref (gAd G 0), .int a1, .int a2] σ Φ := by
  refine CV.intro (by decide) (Nat.le_of_ble_eq_true rfl) hJ ?_
  intro p e s m args below meth c ls hE hml hr hlk hw hl
  have hl : lv_has ls 5 [(0, .ref (gAd G 0)), (1, .int a1), (2, .int a2)] := hl
  unfold wp_X11_doOuter at hq
  refine lv_iload_n hE.1 hE.2.1 dX11_doOuter_0 rfl (lv_at hl 1 rfl) ?_
  by_cases c1 : a1 = (1 : Int32)
  · have hq := hq.1 c1
    refine lv_tableH (off := 83) (tgt := 84) hE.1 hE.2.1 dX11_doOuter_1 c1 (by decide) (by decide) (by decide) (by decide) ?_
    refine lv_aload_n hE.1 hE.2.1 dX11_doOuter_84 rfl (lv_at hl 0 rfl) ?_
    refine mgf_X11_13 hE hw dX11_doOuter_85 ?_
    refine lv_aload_n hE.1 hE.2.1 dX11_doOuter_88 rfl (lv_at hl 0 rfl) ?_
    refine mgf_X11_125 hE hw dX11_doOuter_89 ?_
    obtain ⟨hi2, hq⟩ := hq
    refine mal_2 hE hw hi2 dX11_doOuter_92 ?_
    refine lv_if_eq (tgt := 351) hE.1 hE.2.1 dX11_doOuter_93 (by decide) (fun c3 => ?_) (fun c3 => ?_)
    · have hq := hq.1 c3
      exact rtV hE hr hlk hw hq dX11_doOuter_351
    · have hq := hq.2 c3
      refine lv_aload_n hE.1 hE.2.1 dX11_doOuter_96 rfl (lv_at hl 0 rfl) ?_
      refine lv_iconst (v := (1 : Int32)) hE.1 hE.2.1 dX11_doOuter_97 (by decide) ?_
      refine lv_iconst (v := (0 : Int32)) hE.1 hE.2.1 dX11_doOuter_98 (by decide) ?_
      refine clVv (rest := []) (As := [.int (1 : Int32), .int (0 : Int32)]) hE hml hl.1 hw (c_X11_come hE.2.2.2.2.2 l _ _ _ _ hq) mu45 mu46 mu47 mu48 mu3 rfl (k := 2) (by decide +kernel) (by decide) (ci := 11) rfl (q0 := 0) rfl rfl rfl (Nat.le_of_ble_eq_true rfl) dX11_doOuter_99 (by decide) (fun σ1 hq H locs hw => ?_)
      refine lv_aload_n hE.1 hE.2.1 dX11_doOuter_102 rfl (lv_at hl 0 rfl) ?_
      refine clVv (rest := []) (As := []) hE hml hl.1 hw (c_X11_outer hE.2.2.2.2.2 l _ _ hq) mu106 mu107 mu108 mu109 mu3 rfl (k := 0) (by decide +kernel) (by decide) (ci := 11) rfl (q0 := 0) rfl rfl rfl (Nat.le_of_ble_eq_true rfl) dX11_doOuter_103 (by decide) (fun σ2 hq H locs hw => ?_)
      refine lv_goto (tgt := 351) hE.1 hE.2.1 dX11_doOuter_106 (by decide) ?_
      exact rtV hE hr hlk hw hq dX11_doOuter_351
  · have hq := hq.2 c1
    by_cases c4 : a1 = (2 : Int32)
    · have hq := hq.1 c4
      refine lv_tableH (off := 108) (tgt := 109) hE.1 hE.2.1 dX11_doOuter_1 c4 (by decide) (by decide) (by decide) (by decide) ?_
      refine lv_aload_n hE.1 hE.2.1 dX11_doOuter_109 rfl (lv_at hl 0 rfl) ?_
      refine lv_bipush (v := (125 : Int32)) hE.1 hE.2.1 dX11_doOuter_110 (by decide) ?_
      refine clVi (rest := []) (As := [.int (125 : Int32)]) hE hml hl.1 hw (c_X11_sees hE.2.2.2.2.2 l _ _ _ hq) mu60 mu61 mu62 mu63 mu3 rfl (k := 1) (by decide +kernel) (by decide) (ci := 11) rfl (q0 := 0) rfl rfl rfl (Nat.le_of_ble_eq_true rfl) dX11_doOuter_112 (by decide) (fun r5 σ3 hq H locs hw => ?_)
      refine lv_if_eq (tgt := 141) hE.1 hE.2.1 dX11_doOuter_115 (by decide) (fun c6 => ?_) (fun c6 => ?_)
      · have hq := hq.1 c6
        refine lv_aload_n hE.1 hE.2.1 dX11_doOuter_141 rfl (lv_at hl 0 rfl) ?_
        refine lv_iconst (v := (2 : Int32)) hE.1 hE.2.1 dX11_doOuter_142 (by decide) ?_
        refine lv_iconst (v := (0 : Int32)) hE.1 hE.2.1 dX11_doOuter_143 (by decide) ?_
        refine clVv (rest := []) (As := [.int (2 : Int32), .int (0 : Int32)]) hE hml hl.1 hw (c_X11_come hE.2.2.2.2.2 l _ _ _ _ hq) mu45 mu46 mu47 mu48 mu3 rfl (k := 2) (by decide +kernel) (by decide) (ci := 11) rfl (q0 := 0) rfl rfl rfl (Nat.le_of_ble_eq_true rfl) dX11_doOuter_144 (by decide) (fun σ4 hq H locs hw => ?_)
        refine lv_aload_n hE.1 hE.2.1 dX11_doOuter_147 rfl (lv_at hl 0 rfl) ?_
        refine clVv (rest := []) (As := []) hE hml hl.1 hw (c_X11_statement hE.2.2.2.2.2 l _ _ hq) mu102 mu103 mu104 mu105 mu3 rfl (k := 0) (by decide +kernel) (by decide) (ci := 11) rfl (q0 := 0) rfl rfl rfl (Nat.le_of_ble_eq_true rfl) dX11_doOuter_148 (by decide) (fun σ5 hq H locs hw => ?_)
        refine lv_goto (tgt := 351) hE.1 hE.2.1 dX11_doOuter_151 (by decide) ?_
        exact rtV hE hr hlk hw hq dX11_doOuter_351
      · have hq := hq.2 c6
        refine lv_aload_n hE.1 hE.2.1 dX11_doOuter_118 rfl (lv_at hl 0 rfl) ?_
        refine lv_dup hE.1 hE.2.1 dX11_doOuter_119 rfl ?_
        refine mgf_X11_125 hE hw dX11_doOuter_120 ?_
        refine lv_iconst (v := (1 : Int32)) hE.1 hE.2.1 dX11_doOuter_123 (by decide) ?_
        refine lv_iadd hE.1 hE.2.1 dX11_doOuter_124 ?_
        refine mpf_X11_125 hE hw dX11_doOuter_125 (fun σ6 eσ6 H locs hw => ?_)
        have hq := hq σ6 eσ6
        refine lv_aload_n hE.1 hE.2.1 dX11_doOuter_128 rfl (lv_at hl 0 rfl) ?_
        refine lv_dup hE.1 hE.2.1 dX11_doOuter_129 rfl ?_
        refine mgf_X11_182 hE hw dX11_doOuter_130 ?_
        refine lv_iconst (v := (1 : Int32)) hE.1 hE.2.1 dX11_doOuter_133 (by decide) ?_
        refine lv_isub hE.1 hE.2.1 dX11_doOuter_134 ?_
        refine mpf_X11_182 hE hw dX11_doOuter_135 (fun σ7 eσ7 H locs hw => ?_)
        have hq := hq σ7 eσ7
        refine lv_goto (tgt := 351) hE.1 hE.2.1 dX11_doOuter_138 (by decide) ?_
        exact rtV hE hr hlk hw hq dX11_doOuter_351
    · have hq := hq.2 c4
      by_cases c7 : a1 = (3 : Int32)
      · have hq := hq.1 c7
        refine lv_tableH (off := 153) (tgt := 154) hE.1 hE.2.1 dX11_doOuter_1 c7 (by decide) (by decide) (by decide) (by decide) ?_
        refine lv_aload_n hE.1 hE.2.1 dX11_doOuter_154 rfl (lv_at hl 0 rfl) ?_
        refine mgf_X11_182 hE hw dX11_doOuter_155 ?_
        refine lv_bipush (v := (20 : Int32)) hE.1 hE.2.1 dX11_doOuter_158 (by decide) ?_
        refine lv_icmp_ne (tgt := 171) hE.1 hE.2.1 dX11_doOuter_160 (by decide) (fun c8 => ?_) (fun c8 => ?_)
        · have hq := hq.2 c8
          exact tb_X11_doOuter_b171 hE hml hr hlk  hq hw (lv_sub hl [0] rfl)
        · have hq := hq.1 c8
          refine lv_aload_n hE.1 hE.2.1 dX11_doOuter_163 rfl (lv_at hl 0 rfl) ?_
          refine lv_aload_n hE.1 hE.2.1 dX11_doOuter_164 rfl (lv_at hl 0 rfl) ?_
          refine mgf_X11_125 hE hw dX11_doOuter_165 ?_
          refine clVv (rest := []) (As := [.int (σ.1 3)]) hE hml hl.1 hw (c_X11_fail hE.2.2.2.2.2 l _ _ _ hq) mu64 mu65 mu66 mu67 mu3 rfl (k := 1) (by decide +kernel) (by decide) (ci := 11) rfl (q0 := 0) rfl rfl rfl (Nat.le_of_ble_eq_true rfl) dX11_doOuter_168 (by decide) (fun σ8 hq H locs hw => ?_)
          exact tb_X11_doOuter_b171 hE hml hr hlk  hq hw (lv_sub hl [0] rfl)
      · have hq := hq.2 c7
        by_cases c9 : a1 = (14 : Int32)
        · have hq := hq.1 c9
          refine lv_tableH (off := 195) (tgt := 196) hE.1 hE.2.1 dX11_doOuter_1 c9 (by decide) (by decide) (by decide) (by decide) ?_
          refine lv_aload_n hE.1 hE.2.1 dX11_doOuter_196 rfl (lv_at hl 0 rfl) ?_
          refine mgf_X11_37 hE hw dX11_doOuter_197 ?_
          refine lv_iload_n hE.1 hE.2.1 dX11_doOuter_200 rfl (lv_at hl 2 rfl) ?_
          refine lv_aload_n hE.1 hE.2.1 dX11_doOuter_201 rfl (lv_at hl 0 rfl) ?_
          refine mgf_X11_137 hE hw dX11_doOuter_202 ?_
          obtain ⟨hi10, hq⟩ := hq
          refine mas_10 hE hw hi10 dX11_doOuter_205 (fun σ9 eσ9 H locs hw => ?_)
          have hq := hq σ9 eσ9
          refine lv_aload_n hE.1 hE.2.1 dX11_doOuter_206 rfl (lv_at hl 0 rfl) ?_
          refine mgf_X11_43 hE hw dX11_doOuter_207 ?_
          refine lv_iload_n hE.1 hE.2.1 dX11_doOuter_210 rfl (lv_at hl 2 rfl) ?_
          refine lv_aload_n hE.1 hE.2.1 dX11_doOuter_211 rfl (lv_at hl 0 rfl) ?_
          refine mgf_X11_140 hE hw dX11_doOuter_212 ?_
          obtain ⟨hi11, hq⟩ := hq
          refine mas_12 hE hw hi11 dX11_doOuter_215 (fun σ10 eσ10 H locs hw => ?_)
          have hq := hq σ10 eσ10
          refine lv_goto (tgt := 351) hE.1 hE.2.1 dX11_doOuter_216 (by decide) ?_
          exact rtV hE hr hlk hw hq dX11_doOuter_351
        · have hq := hq.2 c9
          by_cases c12 : a1 = (15 : Int32)
          · have hq := hq.1 c12
            refine lv_tableH (off := 218) (tgt := 219) hE.1 hE.2.1 dX11_doOuter_1 c12 (by decide) (by decide) (by decide) (by decide) ?_
            refine lv_aload_n hE.1 hE.2.1 dX11_doOuter_219 rfl (lv_at hl 0 rfl) ?_
            refine lv_bipush (v := (58 : Int32)) hE.1 hE.2.1 dX11_doOuter_220 (by decide) ?_
            refine clVi (rest := []) (As := [.int (58 : Int32)]) hE hml hl.1 hw (c_X11_sees hE.2.2.2.2.2 l _ _ _ hq) mu60 mu61 mu62 mu63 mu3 rfl (k := 1) (by decide +kernel) (by decide) (ci := 11) rfl (q0 := 0) rfl rfl rfl (Nat.le_of_ble_eq_true rfl) dX11_doOuter_222 (by decide) (fun r13 σ11 hq H locs hw => ?_)
            refine lv_if_eq (tgt := 260) hE.1 hE.2.1 dX11_doOuter_225 (by decide) (fun c14 => ?_) (fun c14 => ?_)
            · have hq := hq.1 c14
              refine lv_aload_n hE.1 hE.2.1 dX11_doOuter_260 rfl (lv_at hl 0 rfl) ?_
              refine mgf_X11_31 hE hw dX11_doOuter_261 ?_
              refine lv_iload_n hE.1 hE.2.1 dX11_doOuter_264 rfl (lv_at hl 2 rfl) ?_
              refine lv_aload_n hE.1 hE.2.1 dX11_doOuter_265 rfl (lv_at hl 0 rfl) ?_
              refine mgf_X11_134 hE hw dX11_doOuter_266 ?_
              obtain ⟨hi15, hq⟩ := hq
              refine mas_8 hE hw hi15 dX11_doOuter_269 (fun σ12 eσ12 H locs hw => ?_)
              have hq := hq σ12 eσ12
              refine lv_goto (tgt := 351) hE.1 hE.2.1 dX11_doOuter_270 (by decide) ?_
              exact rtV hE hr hlk hw hq dX11_doOuter_351
            · have hq := hq.2 c14
              refine lv_aload_n hE.1 hE.2.1 dX11_doOuter_228 rfl (lv_at hl 0 rfl) ?_
              refine lv_dup hE.1 hE.2.1 dX11_doOuter_229 rfl ?_
              refine mgf_X11_125 hE hw dX11_doOuter_230 ?_
              refine lv_iconst (v := (1 : Int32)) hE.1 hE.2.1 dX11_doOuter_233 (by decide) ?_
              refine lv_iadd hE.1 hE.2.1 dX11_doOuter_234 ?_
              refine mpf_X11_125 hE hw dX11_doOuter_235 (fun σ13 eσ13 H locs hw => ?_)
              have hq := hq σ13 eσ13
              refine lv_aload_n hE.1 hE.2.1 dX11_doOuter_238 rfl (lv_at hl 0 rfl) ?_
              refine lv_bipush (v := (11 : Int32)) hE.1 hE.2.1 dX11_doOuter_239 (by decide) ?_
              refine lv_iconst (v := (0 : Int32)) hE.1 hE.2.1 dX11_doOuter_241 (by decide) ?_
              refine lv_iconst (v := (-1 : Int32)) hE.1 hE.2.1 dX11_doOuter_242 (by decide) ?_
              refine clVi (rest := []) (As := [.int (11 : Int32), .int (0 : Int32), .int (-1 : Int32)]) hE hml hl.1 hw (c_X11_code hE.2.2.2.2.2 l _ _ _ _ _ hq) mu56 mu57 mu58 mu59 mu3 rfl (k := 3) (by decide +kernel) (by decide) (ci := 11) rfl (q0 := 0) rfl rfl rfl (Nat.le_of_ble_eq_true rfl) dX11_doOuter_243 (by decide) (fun r16 σ14 hq H locs hw => ?_)
              refine lv_istore_n (lv' := [(3, .int r16), (0, .ref (gAd G 0)), (1, .int a1), (2, .int a2)]) hE.1 hE.2.1 dX11_doOuter_246 rfl hl (by decide) rfl (fun ls hl => ?_)
              refine lv_aload_n hE.1 hE.2.1 dX11_doOuter_247 rfl (lv_at hl 1 rfl) ?_
              refine lv_bipush (v := (16 : Int32)) hE.1 hE.2.1 dX11_doOuter_248 (by decide) ?_
              refine lv_iload_n hE.1 hE.2.1 dX11_doOuter_250 rfl (lv_at hl 0 rfl) ?_
              refine clVv (rest := []) (As := [.int (16 : Int32), .int r16]) hE hml hl.1 hw (c_X11_come hE.2.2.2.2.2 l _ _ _ _ hq) mu45 mu46 mu47 mu48 mu3 rfl (k := 2) (by decide +kernel) (by decide) (ci := 11) rfl (q0 := 0) rfl rfl rfl (Nat.le_of_ble_eq_true rfl) dX11_doOuter_251 (by decide) (fun σ15 hq H locs hw => ?_)
              refine lv_aload_n hE.1 hE.2.1 dX11_doOuter_254 rfl (lv_at hl 1 rfl) ?_
              refine lv_iconst (v := (3 : Int32)) hE.1 hE.2.1 dX11_doOuter_255 (by decide) ?_
              refine lv_iconst (v := (0 : Int32)) hE.1 hE.2.1 dX11_doOuter_256 (by decide) ?_
              refine clVv (rest := []) (As := [.int (3 : Int32), .int (0 : Int32)]) hE hml hl.1 hw (c_X11_come hE.2.2.2.2.2 l _ _ _ _ hq) mu45 mu46 mu47 mu48 mu3 rfl (k := 2) (by decide +kernel) (by decide) (ci := 11) rfl (q0 := 0) rfl rfl rfl (Nat.le_of_ble_eq_true rfl) dX11_doOuter_257 (by decide) (fun σ16 hq H locs hw => ?_)
              refine lv_aload_n hE.1 hE.2.1 dX11_doOuter_260 rfl (lv_at hl 1 rfl) ?_
              refine mgf_X11_31 hE hw dX11_doOuter_261 ?_
              refine lv_iload_n hE.1 hE.2.1 dX11_doOuter_264 rfl (lv_at hl 3 rfl) ?_
              refine lv_aload_n hE.1 hE.2.1 dX11_doOuter_265 rfl (lv_at hl 1 rfl) ?_
              refine mgf_X11_134 hE hw dX11_doOuter_266 ?_
              obtain ⟨hi17, hq⟩ := hq
              refine mas_8 hE hw hi17 dX11_doOuter_269 (fun σ17 eσ17 H locs hw => ?_)
              have hq := hq σ17 eσ17
              refine lv_goto (tgt := 351) hE.1 hE.2.1 dX11_doOuter_270 (by decide) ?_
              exact rtV hE hr hlk hw hq dX11_doOuter_351
          · have hq := hq.2 c12
            by_cases c18 : a1 = (16 : Int32)
            · have hq := hq.1 c18
              refine lv_tableH (off := 272) (tgt := 273) hE.1 hE.2.1 dX11_doOuter_1 c18 (by decide) (by decide) (by decide) (by decide) ?_
              refine lv_aload_n hE.1 hE.2.1 dX11_doOuter_273 rfl (lv_at hl 0 rfl) ?_
              refine mgf_X11_31 hE hw dX11_doOuter_274 ?_
              refine lv_iload_n hE.1 hE.2.1 dX11_doOuter_277 rfl (lv_at hl 2 rfl) ?_
              refine lv_aload_n hE.1 hE.2.1 dX11_doOuter_278 rfl (lv_at hl 0 rfl) ?_
              refine mgf_X11_134 hE hw dX11_doOuter_279 ?_
              obtain ⟨hi19, hq⟩ := hq
              refine mas_8 hE hw hi19 dX11_doOuter_282 (fun σ18 eσ18 H locs hw => ?_)
              have hq := hq σ18 eσ18
              refine lv_goto (tgt := 351) hE.1 hE.2.1 dX11_doOuter_283 (by decide) ?_
              exact rtV hE hr hlk hw hq dX11_doOuter_351
            · have hq := hq.2 c18
              by_cases c20 : a1 = (17 : Int32)
              · have hq := hq.1 c20
                refine lv_tableH (off := 285) (tgt := 286) hE.1 hE.2.1 dX11_doOuter_1 c20 (by decide) (by decide) (by decide) (by decide) ?_
                refine lv_aload_n hE.1 hE.2.1 dX11_doOuter_286 rfl (lv_at hl 0 rfl) ?_
                refine lv_bipush (v := (11 : Int32)) hE.1 hE.2.1 dX11_doOuter_287 (by decide) ?_
                refine lv_iload_n hE.1 hE.2.1 dX11_doOuter_289 rfl (lv_at hl 2 rfl) ?_
                refine lv_iconst (v := (-1 : Int32)) hE.1 hE.2.1 dX11_doOuter_290 (by decide) ?_
                refine clVi (rest := []) (As := [.int (11 : Int32), .int a2, .int (-1 : Int32)]) hE hml hl.1 hw (c_X11_code hE.2.2.2.2.2 l _ _ _ _ _ hq) mu56 mu57 mu58 mu59 mu3 rfl (k := 3) (by decide +kernel) (by decide) (ci := 11) rfl (q0 := 0) rfl rfl rfl (Nat.le_of_ble_eq_true rfl) dX11_doOuter_291 (by decide) (fun r21 σ19 hq H locs hw => ?_)
                refine lv_istore_n (lv' := [(3, .int r21), (0, .ref (gAd G 0)), (1, .int a1), (2, .int a2)]) hE.1 hE.2.1 dX11_doOuter_294 rfl hl (by decide) rfl (fun ls hl => ?_)
                refine lv_aload_n hE.1 hE.2.1 dX11_doOuter_295 rfl (lv_at hl 1 rfl) ?_
                refine mgf_X11_31 hE hw dX11_doOuter_296 ?_
                refine lv_iload_n hE.1 hE.2.1 dX11_doOuter_299 rfl (lv_at hl 3 rfl) ?_
                refine lv_aload_n hE.1 hE.2.1 dX11_doOuter_300 rfl (lv_at hl 1 rfl) ?_
                refine mgf_X11_134 hE hw dX11_doOuter_301 ?_
                obtain ⟨hi22, hq⟩ := hq
                refine mas_8 hE hw hi22 dX11_doOuter_304 (fun σ20 eσ20 H locs hw => ?_)
                have hq := hq σ20 eσ20
                refine lv_goto (tgt := 351) hE.1 hE.2.1 dX11_doOuter_305 (by decide) ?_
                exact rtV hE hr hlk hw hq dX11_doOuter_351
              · have hq := hq.2 c20
                refine lv_tableD (ks := [1, 2, 3, 14, 15, 16, 17]) (tgt := 308) hE.1 hE.2.1 dX11_doOuter_1 (by simp only [List.forall_mem_cons, List.not_mem_nil, false_implies, implies_true, and_true]; exact ⟨c1, c4, c7, c9, c12, c18, c20⟩) (by decide) (by decide) (by decide) ?_
                refine lv_aload_n hE.1 hE.2.1 dX11_doOuter_308 rfl (lv_at hl 0 rfl) ?_
                refine lv_bipush (v := (12 : Int32)) hE.1 hE.2.1 dX11_doOuter_309 (by decide) ?_
                refine lv_iconst (v := (0 : Int32)) hE.1 hE.2.1 dX11_doOuter_311 (by decide) ?_
                refine lv_iconst (v := (-1 : Int32)) hE.1 hE.2.1 dX11_doOuter_312 (by decide) ?_
                refine clVi (rest := []) (As := [.int (12 : Int32), .int (0 : Int32), .int (-1 : Int32)]) hE hml hl.1 hw (c_X11_code hE.2.2.2.2.2 l _ _ _ _ _ hq) mu56 mu57 mu58 mu59 mu3 rfl (k := 3) (by decide +kernel) (by decide) (ci := 11) rfl (q0 := 0) rfl rfl rfl (Nat.le_of_ble_eq_true rfl) dX11_doOuter_313 (by decide) (fun r23 σ21 hq H locs hw => ?_)
                refine lv_istore (lv' := [(4, .int r23), (0, .ref (gAd G 0)), (1, .int a1), (2, .int a2)]) hE.1 hE.2.1 dX11_doOuter_316 hl (by decide) rfl (fun ls hl => ?_)
                refine lv_aload_n hE.1 hE.2.1 dX11_doOuter_318 rfl (lv_at hl 1 rfl) ?_
                refine mgf_X11_31 hE hw dX11_doOuter_319 ?_
                refine lv_iload_n hE.1 hE.2.1 dX11_doOuter_322 rfl (lv_at hl 3 rfl) ?_
                refine lv_bipush (v := (32 : Int32)) hE.1 hE.2.1 dX11_doOuter_323 (by decide) ?_
                refine lv_idiv hE.1 hE.2.1 dX11_doOuter_325 (by decide) ?_
                refine lv_aload_n hE.1 hE.2.1 dX11_doOuter_326 rfl (lv_at hl 1 rfl) ?_
                refine mgf_X11_134 hE hw dX11_doOuter_327 ?_
                obtain ⟨hi24, hq⟩ := hq
                refine mas_8 hE hw hi24 dX11_doOuter_330 (fun σ22 eσ22 H locs hw => ?_)
                have hq := hq σ22 eσ22
                refine lv_aload_n hE.1 hE.2.1 dX11_doOuter_331 rfl (lv_at hl 1 rfl) ?_
                refine mgf_X11_55 hE hw dX11_doOuter_332 ?_
                refine lv_iload_n hE.1 hE.2.1 dX11_doOuter_335 rfl (lv_at hl 3 rfl) ?_
                refine lv_bipush (v := (32 : Int32)) hE.1 hE.2.1 dX11_doOuter_336 (by decide) ?_
                refine lv_irem hE.1 hE.2.1 dX11_doOuter_338 (by decide) ?_
                refine lv_iconst (v := (1 : Int32)) hE.1 hE.2.1 dX11_doOuter_339 (by decide) ?_
                obtain ⟨hi25, hq⟩ := hq
                refine mas_16 hE hw hi25 dX11_doOuter_340 (fun σ23 eσ23 H locs hw => ?_)
                have hq := hq σ23 eσ23
                refine lv_aload_n hE.1 hE.2.1 dX11_doOuter_341 rfl (lv_at hl 1 rfl) ?_
                refine lv_dup hE.1 hE.2.1 dX11_doOuter_342 rfl ?_
                refine mgf_X11_189 hE hw dX11_doOuter_343 ?_
                refine lv_iconst (v := (1 : Int32)) hE.1 hE.2.1 dX11_doOuter_346 (by decide) ?_
                refine lv_iadd hE.1 hE.2.1 dX11_doOuter_347 ?_
                refine mpf_X11_189 hE hw dX11_doOuter_348 (fun σ24 eσ24 H locs hw => ?_)
                have hq := hq σ24 eσ24
                exact rtV hE hr hlk hw hq dX11_doOuter_351
/-! QueueBenchModel.compile()I -/
abbrev rm_X11_compile : Room := { frames := 4, cells := 0, slots := 0, locals := 93 }
def wp_X11_compile_b194  (Φ : Int32 → S9 → Prop) (t0 : Int32) (σ : S9) : Prop := (narrow .boolean (.int t0) = .int t0 ∧ fits .boolean (.int t0) = true) ∧ ∀ σ1 : S9, σ1 = sF σ 10 t0 → ((σ1.1 10) = 0 → Φ ((σ1.1 4) + (1 : Int32)) σ1) ∧ (¬ (σ1.1 10) = 0 → Φ (0 : Int32) σ1)
def wp_X11_compile_b171  (Φ : Int32 → S9 → Prop)  (σ : S9) : Prop := wp_X11_code (13 : Int32) (0 : Int32) (-1 : Int32) σ (fun r1 σ1 => ((σ1.1 4) = (-1 : Int32) → wp_X11_compile_b194  Φ (1 : Int32) σ1) ∧ (¬ (σ1.1 4) = (-1 : Int32) → wp_X11_compile_b194  Φ (0 : Int32) σ1))
def wp_X11_compile_b137 (K86 : S9 → Prop) (Φ : Int32 → S9 → Prop) (a1 : Int32) (σ : S9) : Prop := vp_in (σ.1 5) 4000 ∧ wp_X11_doInner a1 (σ.2.1 5 ((σ.1 5)).toNatClampNeg) σ (fun σ1 => K86 σ1)
def wp_X11_compile_b154 (K86 : S9 → Prop) (Φ : Int32 → S9 → Prop) (a1 : Int32) (σ : S9) : Prop := vp_in (σ.1 5) 4000 ∧ wp_X11_doOuter a1 (σ.2.1 5 ((σ.1 5)).toNatClampNeg) σ (fun σ1 => K86 σ1)
def bd_X11_compile_b86 (K86 : S9 → Prop) (Φ : Int32 → S9 → Prop)  (σ : S9) : Prop := ((σ.1 5) ≤ 0 → wp_X11_compile_b171  Φ σ) ∧ (¬ (σ.1 5) ≤ 0 → ((σ.1 4) = (-1 : Int32) → ∀ σ1 : S9, σ1 = sF σ 5 ((σ.1 5) - (1 : Int32)) → vp_in (σ1.1 5) 4000 ∧ ∀ x4 : Int32, x4 = (σ1.2.1 4 ((σ1.1 5)).toNatClampNeg) → (x4 = (4 : Int32) → wp_X11_compile_b137 K86 Φ x4 σ1) ∧ (¬ x4 = (4 : Int32) → (x4 < (5 : Int32) → wp_X11_compile_b154 K86 Φ x4 σ1) ∧ (¬ x4 < (5 : Int32) → ((13 : Int32) < x4 → wp_X11_compile_b154 K86 Φ x4 σ1) ∧ (¬ (13 : Int32) < x4 → wp_X11_compile_b137 K86 Φ x4 σ1)))) ∧ (¬ (σ.1 4) = (-1 : Int32) → wp_X11_compile_b171  Φ σ))
def lp_X11_compile_b86  (Φ : Int32 → S9 → Prop) : Nat → S9 → Prop
  | 0 => fun _ => False
  | n + 1 => bd_X11_compile_b86  (lp_X11_compile_b86  Φ n) Φ
def bd_X11_compile_b61 (K61 : Int32 → S9 → Prop) (Φ : Int32 → S9 → Prop) (a1 : Int32) (σ : S9) : Prop := ((26 : Int32) ≤ a1 → wp_X11_come (1 : Int32) (0 : Int32) σ (fun σ1 => ∃ n : Nat, lp_X11_compile_b86  Φ n σ1)) ∧ (¬ (26 : Int32) ≤ a1 → vp_in a1 26 ∧ ∀ σ2 : S9, σ2 = sA σ 15 (upd (σ.2.1 15) (a1).toNatClampNeg (vp_nar .boolean (0 : Int32))) → ∀ x3 : Int32, x3 = a1 + 1 → K61 x3 σ2)
def lp_X11_compile_b61  (Φ : Int32 → S9 → Prop) : Nat → Int32 → S9 → Prop
  | 0 => fun _ _ => False
  | n + 1 => bd_X11_compile_b61  (lp_X11_compile_b61  Φ n) Φ
def wp_X11_compile  (σ : S9) (Φ : Int32 → S9 → Prop) : Prop := ∀ σ1 : S9, σ1 = sF σ 0 (0 : Int32) → wp_X11_part σ1 (fun σ2 => ∀ σ3 : S9, σ3 = sF σ2 3 (0 : Int32) → ∀ σ4 : S9, σ4 = sF σ3 4 (-1 : Int32) → ∀ σ5 : S9, σ5 = sF σ4 5 (0 : Int32) → ∀ σ6 : S9, σ6 = sF σ5 6 (0 : Int32) → ∀ σ7 : S9, σ7 = sF σ6 7 (0 : Int32) → ∀ σ8 : S9, σ8 = sF σ7 8 (0 : Int32) → ∀ σ9 : S9, σ9 = sF σ8 11 (0 : Int32) → ∀ σ10 : S9, σ10 = sF σ9 12 (0 : Int32) → ∀ σ11 : S9, σ11 = sF σ10 13 (0 : Int32) → ∀ σ12 : S9, σ12 = sF σ11 16 (0 : Int32) → ∀ x1 : Int32, x1 = (0 : Int32) → ∃ n : Nat, lp_X11_compile_b61  Φ n x1 σ12)
theorem dX11_compile_0 : decode cX11_compile 0 = .ok (.aload_n 0, 1) := by decide +kernel
theorem dX11_compile_1 : decode cX11_compile 1 = .ok (.iconst 0, 1) := by decide +kernel
theorem dX11_compile_2 : decode cX11_compile 2 = .ok (.putfield 89, 3) := by decide +kernel
theorem dX11_compile_5 : decode cX11_compile 5 = .ok (.aload_n 0, 1) := by decide +kernel
theorem dX11_compile_6 : decode cX11_compile 6 = .ok (.invokevirtual 199, 3) := by decide +kernel
theorem dX11_compile_9 : decode cX11_compile 9 = .ok (.aload_n 0, 1) := by decide +kernel
theorem dX11_compile_10 : decode cX11_compile 10 = .ok (.iconst 0, 1) := by decide +kernel
theorem dX11_compile_11 : decode cX11_compile 11 = .ok (.putfield 125, 3) := by decide +kernel
theorem dX11_compile_14 : decode cX11_compile 14 = .ok (.aload_n 0, 1) := by decide +kernel
theorem dX11_compile_15 : decode cX11_compile 15 = .ok (.iconst (-1), 1) := by decide +kernel
theorem dX11_compile_16 : decode cX11_compile 16 = .ok (.putfield 128, 3) := by decide +kernel
theorem dX11_compile_19 : decode cX11_compile 19 = .ok (.aload_n 0, 1) := by decide +kernel
theorem dX11_compile_20 : decode cX11_compile 20 = .ok (.iconst 0, 1) := by decide +kernel
theorem dX11_compile_21 : decode cX11_compile 21 = .ok (.putfield 131, 3) := by decide +kernel
theorem dX11_compile_24 : decode cX11_compile 24 = .ok (.aload_n 0, 1) := by decide +kernel
theorem dX11_compile_25 : decode cX11_compile 25 = .ok (.iconst 0, 1) := by decide +kernel
theorem dX11_compile_26 : decode cX11_compile 26 = .ok (.putfield 182, 3) := by decide +kernel
theorem dX11_compile_29 : decode cX11_compile 29 = .ok (.aload_n 0, 1) := by decide +kernel
theorem dX11_compile_30 : decode cX11_compile 30 = .ok (.iconst 0, 1) := by decide +kernel
theorem dX11_compile_31 : decode cX11_compile 31 = .ok (.putfield 172, 3) := by decide +kernel
theorem dX11_compile_34 : decode cX11_compile 34 = .ok (.aload_n 0, 1) := by decide +kernel
theorem dX11_compile_35 : decode cX11_compile 35 = .ok (.iconst 0, 1) := by decide +kernel
theorem dX11_compile_36 : decode cX11_compile 36 = .ok (.putfield 150, 3) := by decide +kernel
theorem dX11_compile_39 : decode cX11_compile 39 = .ok (.aload_n 0, 1) := by decide +kernel
theorem dX11_compile_40 : decode cX11_compile 40 = .ok (.iconst 0, 1) := by decide +kernel
theorem dX11_compile_41 : decode cX11_compile 41 = .ok (.putfield 134, 3) := by decide +kernel
theorem dX11_compile_44 : decode cX11_compile 44 = .ok (.aload_n 0, 1) := by decide +kernel
theorem dX11_compile_45 : decode cX11_compile 45 = .ok (.iconst 0, 1) := by decide +kernel
theorem dX11_compile_46 : decode cX11_compile 46 = .ok (.putfield 137, 3) := by decide +kernel
theorem dX11_compile_49 : decode cX11_compile 49 = .ok (.aload_n 0, 1) := by decide +kernel
theorem dX11_compile_50 : decode cX11_compile 50 = .ok (.iconst 0, 1) := by decide +kernel
theorem dX11_compile_51 : decode cX11_compile 51 = .ok (.putfield 189, 3) := by decide +kernel
theorem dX11_compile_54 : decode cX11_compile 54 = .ok (.aload_n 0, 1) := by decide +kernel
theorem dX11_compile_55 : decode cX11_compile 55 = .ok (.iconst 0, 1) := by decide +kernel
theorem dX11_compile_56 : decode cX11_compile 56 = .ok (.putfield 202, 3) := by decide +kernel
theorem dX11_compile_59 : decode cX11_compile 59 = .ok (.iconst 0, 1) := by decide +kernel
theorem dX11_compile_60 : decode cX11_compile 60 = .ok (.istore_n 1, 1) := by decide +kernel
theorem dX11_compile_61 : decode cX11_compile 61 = .ok (.iload_n 1, 1) := by decide +kernel
theorem dX11_compile_62 : decode cX11_compile 62 = .ok (.bipush 26, 2) := by decide +kernel
theorem dX11_compile_64 : decode cX11_compile 64 = .ok (.if_icmp .ge 16, 3) := by decide +kernel
theorem dX11_compile_67 : decode cX11_compile 67 = .ok (.aload_n 0, 1) := by decide +kernel
theorem dX11_compile_68 : decode cX11_compile 68 = .ok (.getfield 55, 3) := by decide +kernel
theorem dX11_compile_71 : decode cX11_compile 71 = .ok (.iload_n 1, 1) := by decide +kernel
theorem dX11_compile_72 : decode cX11_compile 72 = .ok (.iconst 0, 1) := by decide +kernel
theorem dX11_compile_73 : decode cX11_compile 73 = .ok (.bastore, 1) := by decide +kernel
theorem dX11_compile_74 : decode cX11_compile 74 = .ok (.iinc 1 1, 3) := by decide +kernel
theorem dX11_compile_77 : decode cX11_compile 77 = .ok (.goto (-16), 3) := by decide +kernel
theorem dX11_compile_80 : decode cX11_compile 80 = .ok (.aload_n 0, 1) := by decide +kernel
theorem dX11_compile_81 : decode cX11_compile 81 = .ok (.iconst 1, 1) := by decide +kernel
theorem dX11_compile_82 : decode cX11_compile 82 = .ok (.iconst 0, 1) := by decide +kernel
theorem dX11_compile_83 : decode cX11_compile 83 = .ok (.invokevirtual 162, 3) := by decide +kernel
theorem dX11_compile_86 : decode cX11_compile 86 = .ok (.aload_n 0, 1) := by decide +kernel
theorem dX11_compile_87 : decode cX11_compile 87 = .ok (.getfield 131, 3) := by decide +kernel
theorem dX11_compile_90 : decode cX11_compile 90 = .ok (.ifCond .le 81, 3) := by decide +kernel
theorem dX11_compile_93 : decode cX11_compile 93 = .ok (.aload_n 0, 1) := by decide +kernel
theorem dX11_compile_94 : decode cX11_compile 94 = .ok (.getfield 128, 3) := by decide +kernel
theorem dX11_compile_97 : decode cX11_compile 97 = .ok (.iconst (-1), 1) := by decide +kernel
theorem dX11_compile_98 : decode cX11_compile 98 = .ok (.if_icmp .ne 73, 3) := by decide +kernel
theorem dX11_compile_101 : decode cX11_compile 101 = .ok (.aload_n 0, 1) := by decide +kernel
theorem dX11_compile_102 : decode cX11_compile 102 = .ok (.dup, 1) := by decide +kernel
theorem dX11_compile_103 : decode cX11_compile 103 = .ok (.getfield 131, 3) := by decide +kernel
theorem dX11_compile_106 : decode cX11_compile 106 = .ok (.iconst 1, 1) := by decide +kernel
theorem dX11_compile_107 : decode cX11_compile 107 = .ok (.isub, 1) := by decide +kernel
theorem dX11_compile_108 : decode cX11_compile 108 = .ok (.putfield 131, 3) := by decide +kernel
theorem dX11_compile_111 : decode cX11_compile 111 = .ok (.aload_n 0, 1) := by decide +kernel
theorem dX11_compile_112 : decode cX11_compile 112 = .ok (.getfield 22, 3) := by decide +kernel
theorem dX11_compile_115 : decode cX11_compile 115 = .ok (.aload_n 0, 1) := by decide +kernel
theorem dX11_compile_116 : decode cX11_compile 116 = .ok (.getfield 131, 3) := by decide +kernel
theorem dX11_compile_119 : decode cX11_compile 119 = .ok (.iaload, 1) := by decide +kernel
theorem dX11_compile_120 : decode cX11_compile 120 = .ok (.istore_n 1, 1) := by decide +kernel
theorem dX11_compile_121 : decode cX11_compile 121 = .ok (.iload_n 1, 1) := by decide +kernel
theorem dX11_compile_122 : decode cX11_compile 122 = .ok (.iconst 4, 1) := by decide +kernel
theorem dX11_compile_123 : decode cX11_compile 123 = .ok (.if_icmp .eq 14, 3) := by decide +kernel
theorem dX11_compile_126 : decode cX11_compile 126 = .ok (.iload_n 1, 1) := by decide +kernel
theorem dX11_compile_127 : decode cX11_compile 127 = .ok (.iconst 5, 1) := by decide +kernel
theorem dX11_compile_128 : decode cX11_compile 128 = .ok (.if_icmp .lt 26, 3) := by decide +kernel
theorem dX11_compile_131 : decode cX11_compile 131 = .ok (.iload_n 1, 1) := by decide +kernel
theorem dX11_compile_132 : decode cX11_compile 132 = .ok (.bipush 13, 2) := by decide +kernel
theorem dX11_compile_134 : decode cX11_compile 134 = .ok (.if_icmp .gt 20, 3) := by decide +kernel
theorem dX11_compile_137 : decode cX11_compile 137 = .ok (.aload_n 0, 1) := by decide +kernel
theorem dX11_compile_138 : decode cX11_compile 138 = .ok (.iload_n 1, 1) := by decide +kernel
theorem dX11_compile_139 : decode cX11_compile 139 = .ok (.aload_n 0, 1) := by decide +kernel
theorem dX11_compile_140 : decode cX11_compile 140 = .ok (.getfield 25, 3) := by decide +kernel
theorem dX11_compile_143 : decode cX11_compile 143 = .ok (.aload_n 0, 1) := by decide +kernel
theorem dX11_compile_144 : decode cX11_compile 144 = .ok (.getfield 131, 3) := by decide +kernel
theorem dX11_compile_147 : decode cX11_compile 147 = .ok (.iaload, 1) := by decide +kernel
theorem dX11_compile_148 : decode cX11_compile 148 = .ok (.invokevirtual 206, 3) := by decide +kernel
theorem dX11_compile_151 : decode cX11_compile 151 = .ok (.goto 17, 3) := by decide +kernel
theorem dX11_compile_154 : decode cX11_compile 154 = .ok (.aload_n 0, 1) := by decide +kernel
theorem dX11_compile_155 : decode cX11_compile 155 = .ok (.iload_n 1, 1) := by decide +kernel
theorem dX11_compile_156 : decode cX11_compile 156 = .ok (.aload_n 0, 1) := by decide +kernel
theorem dX11_compile_157 : decode cX11_compile 157 = .ok (.getfield 25, 3) := by decide +kernel
theorem dX11_compile_160 : decode cX11_compile 160 = .ok (.aload_n 0, 1) := by decide +kernel
theorem dX11_compile_161 : decode cX11_compile 161 = .ok (.getfield 131, 3) := by decide +kernel
theorem dX11_compile_164 : decode cX11_compile 164 = .ok (.iaload, 1) := by decide +kernel
theorem dX11_compile_165 : decode cX11_compile 165 = .ok (.invokevirtual 209, 3) := by decide +kernel
theorem dX11_compile_168 : decode cX11_compile 168 = .ok (.goto (-82), 3) := by decide +kernel
theorem dX11_compile_171 : decode cX11_compile 171 = .ok (.aload_n 0, 1) := by decide +kernel
theorem dX11_compile_172 : decode cX11_compile 172 = .ok (.bipush 13, 2) := by decide +kernel
theorem dX11_compile_174 : decode cX11_compile 174 = .ok (.iconst 0, 1) := by decide +kernel
theorem dX11_compile_175 : decode cX11_compile 175 = .ok (.iconst (-1), 1) := by decide +kernel
theorem dX11_compile_176 : decode cX11_compile 176 = .ok (.invokevirtual 159, 3) := by decide +kernel
theorem dX11_compile_179 : decode cX11_compile 179 = .ok (.istore_n 1, 1) := by decide +kernel
theorem dX11_compile_180 : decode cX11_compile 180 = .ok (.aload_n 0, 1) := by decide +kernel
theorem dX11_compile_181 : decode cX11_compile 181 = .ok (.aload_n 0, 1) := by decide +kernel
theorem dX11_compile_182 : decode cX11_compile 182 = .ok (.getfield 128, 3) := by decide +kernel
theorem dX11_compile_185 : decode cX11_compile 185 = .ok (.iconst (-1), 1) := by decide +kernel
theorem dX11_compile_186 : decode cX11_compile 186 = .ok (.if_icmp .ne 7, 3) := by decide +kernel
theorem dX11_compile_189 : decode cX11_compile 189 = .ok (.iconst 1, 1) := by decide +kernel
theorem dX11_compile_190 : decode cX11_compile 190 = .ok (.goto 4, 3) := by decide +kernel
theorem dX11_compile_193 : decode cX11_compile 193 = .ok (.iconst 0, 1) := by decide +kernel
theorem dX11_compile_194 : decode cX11_compile 194 = .ok (.putfield 212, 3) := by decide +kernel
theorem dX11_compile_197 : decode cX11_compile 197 = .ok (.aload_n 0, 1) := by decide +kernel
theorem dX11_compile_198 : decode cX11_compile 198 = .ok (.getfield 212, 3) := by decide +kernel
theorem dX11_compile_201 : decode cX11_compile 201 = .ok (.ifCond .eq 7, 3) := by decide +kernel
theorem dX11_compile_204 : decode cX11_compile 204 = .ok (.iconst 0, 1) := by decide +kernel
theorem dX11_compile_205 : decode cX11_compile 205 = .ok (.goto 9, 3) := by decide +kernel
theorem dX11_compile_208 : decode cX11_compile 208 = .ok (.aload_n 0, 1) := by decide +kernel
theorem dX11_compile_209 : decode cX11_compile 209 = .ok (.getfield 128, 3) := by decide +kernel
theorem dX11_compile_212 : decode cX11_compile 212 = .ok (.iconst 1, 1) := by decide +kernel
theorem dX11_compile_213 : decode cX11_compile 213 = .ok (.iadd, 1) := by decide +kernel
theorem dX11_compile_214 : decode cX11_compile 214 = .ok (.ireturn, 1) := by decide +kernel
set_option maxRecDepth 20000 in
set_option maxHeartbeats 4000000 in
theorem tb_X11_compile_b194 {p : Program} {l : Launch} {e : Env} {s : State} {m : MethodId} {args : Array Value} {below : List Frame} {meth : Method} {c : Code} {G : GG} {Φ : Int32 → S9 → Prop}  (hE : Ev 27 G p s m args c cX11_compile RX11) (hml : c.maxLocals = 2) (hr : meth.sig.returnType = (some .int)) (hlk : meth.locks = false)  {t0 : Int32} {σ : S9} {H : Heap} {locs : List Loc} {ls : Array Slot} (hq : wp_X11_compile_b194  Φ t0 σ) (hw : Pic mwl 27 G σ s.heap H locs) (hl : lv_has ls 2 [(0, .ref (gAd G 0))]) : W p l e rm_X11_compile s m args below meth c H locs 0 0 (QI mwl 27 G below args s Φ) (F0 m 194 ls [.int t0, .ref (gAd G 0)]) := by
  unfold wp_X11_compile_b194 at hq
  obtain ⟨hf1, hq⟩ := hq
  refine mpf_X11_212 hE hw hf1.1 hf1.2 dX11_compile_194 (fun σ1 eσ1 H locs hw => ?_)
  have hq := hq σ1 eσ1
  refine lv_aload_n hE.1 hE.2.1 dX11_compile_197 rfl (lv_at hl 0 rfl) ?_
  refine mgf_X11_212 hE hw dX11_compile_198 ?_
  refine lv_if_eq (tgt := 208) hE.1 hE.2.1 dX11_compile_201 (by decide) (fun c2 => ?_) (fun c2 => ?_)
  · have hq := hq.1 c2
    refine lv_aload_n hE.1 hE.2.1 dX11_compile_208 rfl (lv_at hl 0 rfl) ?_
    refine mgf_X11_128 hE hw dX11_compile_209 ?_
    refine lv_iconst (v := (1 : Int32)) hE.1 hE.2.1 dX11_compile_212 (by decide) ?_
    refine lv_iadd hE.1 hE.2.1 dX11_compile_213 ?_
    exact rtI hE hr hlk hw hq dX11_compile_214
  · have hq := hq.2 c2
    refine lv_iconst (v := (0 : Int32)) hE.1 hE.2.1 dX11_compile_204 (by decide) ?_
    refine lv_goto (tgt := 214) hE.1 hE.2.1 dX11_compile_205 (by decide) ?_
    exact rtI hE hr hlk hw hq dX11_compile_214
set_option maxRecDepth 20000 in
set_option maxHeartbeats 4000000 in
theorem tb_X11_compile_b171 {p : Program} {l : Launch} {e : Env} {s : State} {m : MethodId} {args : Array Value} {below : List Frame} {meth : Method} {c : Code} {G : GG} {Φ : Int32 → S9 → Prop}  (hE : Ev 27 G p s m args c cX11_compile RX11) (hml : c.maxLocals = 2) (hr : meth.sig.returnType = (some .int)) (hlk : meth.locks = false)   {σ : S9} {H : Heap} {locs : List Loc} {ls : Array Slot} (hq : wp_X11_compile_b171  Φ  σ) (hw : Pic mwl 27 G σ s.heap H locs) (hl : lv_has ls 2 [(0, .ref (gAd G 0))]) : W p l e rm_X11_compile s m args below meth c H locs 0 0 (QI mwl 27 G below args s Φ) (F0 m 171 ls []) := by
  unfold wp_X11_compile_b171 at hq
  refine lv_aload_n hE.1 hE.2.1 dX11_compile_171 rfl (lv_at hl 0 rfl) ?_
  refine lv_bipush (v := (13 : Int32)) hE.1 hE.2.1 dX11_compile_172 (by decide) ?_
  refine lv_iconst (v := (0 : Int32)) hE.1 hE.2.1 dX11_compile_174 (by decide) ?_
  refine lv_iconst (v := (-1 : Int32)) hE.1 hE.2.1 dX11_compile_175 (by decide) ?_
  refine clVi (rest := []) (As := [.int (13 : Int32), .int (0 : Int32), .int (-1 : Int32)]) hE hml hl.1 hw (c_X11_code hE.2.2.2.2.2 l _ _ _ _ _ hq) mu56 mu57 mu58 mu59 mu3 rfl (k := 3) (by decide +kernel) (by decide) (ci := 11) rfl (q0 := 0) rfl rfl rfl (Nat.le_of_ble_eq_true rfl) dX11_compile_176 (by decide) (fun r1 σ1 hq H locs hw => ?_)
  refine lv_istore_n (lv' := [(1, .int r1), (0, .ref (gAd G 0))]) hE.1 hE.2.1 dX11_compile_179 rfl hl (by decide) rfl (fun ls hl => ?_)
  refine lv_aload_n hE.1 hE.2.1 dX11_compile_180 rfl (lv_at hl 1 rfl) ?_
  refine lv_aload_n hE.1 hE.2.1 dX11_compile_181 rfl (lv_at hl 1 rfl) ?_
  refine mgf_X11_128 hE hw dX11_compile_182 ?_
  refine lv_iconst (v := (-1 : Int32)) hE.1 hE.2.1 dX11_compile_185 (by decide) ?_
  refine lv_icmp_ne (tgt := 193) hE.1 hE.2.1 dX11_compile_186 (by decide) (fun c2 => ?_) (fun c2 => ?_)
  · have hq := hq.2 c2
    refine lv_iconst (v := (0 : Int32)) hE.1 hE.2.1 dX11_compile_193 (by decide) ?_
    exact tb_X11_compile_b194 hE hml hr hlk  hq hw (lv_sub hl [1] rfl)
  · have hq := hq.1 c2
    refine lv_iconst (v := (1 : Int32)) hE.1 hE.2.1 dX11_compile_189 (by decide) ?_
    refine lv_goto (tgt := 194) hE.1 hE.2.1 dX11_compile_190 (by decide) ?_
    exact tb_X11_compile_b194 hE hml hr hlk  hq hw (lv_sub hl [1] rfl)
set_option maxRecDepth 20000 in
set_option maxHeartbeats 4000000 in
theorem tb_X11_compile_b137 {p : Program} {l : Launch} {e : Env} {s : State} {m : MethodId} {args : Array Value} {below : List Frame} {meth : Method} {c : Code} {G : GG} {Φ : Int32 → S9 → Prop} {K86 : S9 → Prop} (hE : Ev 27 G p s m args c cX11_compile RX11) (hml : c.maxLocals = 2) (hr : meth.sig.returnType = (some .int)) (hlk : meth.locks = false) (hK86 : ∀  (σ : S9) (H : Heap) (locs : List Loc) (ls : Array Slot), K86  σ → Pic mwl 27 G σ s.heap H locs → lv_has ls 2 [(0, .ref (gAd G 0))] → W p l e rm_X11_compile s m args below meth c H locs 0 0 (QI mwl 27 G below args s Φ) (F0 m 86 ls [])) {a1 : Int32} {σ : S9} {H : Heap} {locs : List Loc} {ls : Array Slot} (hq : wp_X11_compile_b137 K86 Φ a1 σ) (hw : Pic mwl 27 G σ s.heap H locs) (hl : lv_has ls 2 [(0, .ref (gAd G 0)), (1, .int a1)]) : W p l e rm_X11_compile s m args below meth c H locs 0 0 (QI mwl 27 G below args s Φ) (F0 m 137 ls []) := by
  unfold wp_X11_compile_b137 at hq
  refine lv_aload_n hE.1 hE.2.1 dX11_compile_137 rfl (lv_at hl 0 rfl) ?_
  refine lv_iload_n hE.1 hE.2.1 dX11_compile_138 rfl (lv_at hl 1 rfl) ?_
  refine lv_aload_n hE.1 hE.2.1 dX11_compile_139 rfl (lv_at hl 0 rfl) ?_
  refine mgf_X11_25 hE hw dX11_compile_140 ?_
  refine lv_aload_n hE.1 hE.2.1 dX11_compile_143 rfl (lv_at hl 0 rfl) ?_
  refine mgf_X11_131 hE hw dX11_compile_144 ?_
  obtain ⟨hi1, hq⟩ := hq
  refine mal_6 hE hw hi1 dX11_compile_147 ?_
  refine clVv (rest := []) (As := [.int a1, .int (σ.2.1 5 ((σ.1 5)).toNatClampNeg)]) hE hml hl.1 hw (c_X11_doInner hE.2.2.2.2.2 l _ _ _ _ hq) mu97 mu98 mu99 mu100 mu3 rfl (k := 2) (by decide +kernel) (by decide) (ci := 11) rfl (q0 := 0) rfl rfl rfl (Nat.le_of_ble_eq_true rfl) dX11_compile_148 (by decide) (fun σ1 hq H locs hw => ?_)
  refine lv_goto (tgt := 168) hE.1 hE.2.1 dX11_compile_151 (by decide) ?_
  refine lv_goto (tgt := 86) hE.1 hE.2.1 dX11_compile_168 (by decide) ?_
  exact hK86 _ _ _ _ hq hw (lv_sub hl [0] rfl)
set_option maxRecDepth 20000 in
set_option maxHeartbeats 4000000 in
theorem tb_X11_compile_b154 {p : Program} {l : Launch} {e : Env} {s : State} {m : MethodId} {args : Array Value} {below : List Frame} {meth : Method} {c : Code} {G : GG} {Φ : Int32 → S9 → Prop} {K86 : S9 → Prop} (hE : Ev 27 G p s m args c cX11_compile RX11) (hml : c.maxLocals = 2) (hr : meth.sig.returnType = (some .int)) (hlk : meth.locks = false) (hK86 : ∀  (σ : S9) (H : Heap) (locs : List Loc) (ls : Array Slot), K86  σ → Pic mwl 27 G σ s.heap H locs → lv_has ls 2 [(0, .ref (gAd G 0))] → W p l e rm_X11_compile s m args below meth c H locs 0 0 (QI mwl 27 G below args s Φ) (F0 m 86 ls [])) {a1 : Int32} {σ : S9} {H : Heap} {locs : List Loc} {ls : Array Slot} (hq : wp_X11_compile_b154 K86 Φ a1 σ) (hw : Pic mwl 27 G σ s.heap H locs) (hl : lv_has ls 2 [(0, .ref (gAd G 0)), (1, .int a1)]) : W p l e rm_X11_compile s m args below meth c H locs 0 0 (QI mwl 27 G below args s Φ) (F0 m 154 ls []) := by
  unfold wp_X11_compile_b154 at hq
  refine lv_aload_n hE.1 hE.2.1 dX11_compile_154 rfl (lv_at hl 0 rfl) ?_
  refine lv_iload_n hE.1 hE.2.1 dX11_compile_155 rfl (lv_at hl 1 rfl) ?_
  refine lv_aload_n hE.1 hE.2.1 dX11_compile_156 rfl (lv_at hl 0 rfl) ?_
  refine mgf_X11_25 hE hw dX11_compile_157 ?_
  refine lv_aload_n hE.1 hE.2.1 dX11_compile_160 rfl (lv_at hl 0 rfl) ?_
  refine mgf_X11_131 hE hw dX11_compile_161 ?_
  obtain ⟨hi1, hq⟩ := hq
  refine mal_6 hE hw hi1 dX11_compile_164 ?_
  refine clVv (rest := []) (As := [.int a1, .int (σ.2.1 5 ((σ.1 5)).toNatClampNeg)]) hE hml hl.1 hw (c_X11_doOuter hE.2.2.2.2.2 l _ _ _ _ hq) mu110 mu111 mu112 mu113 mu3 rfl (k := 2) (by decide +kernel) (by decide) (ci := 11) rfl (q0 := 0) rfl rfl rfl (Nat.le_of_ble_eq_true rfl) dX11_compile_165 (by decide) (fun σ1 hq H locs hw => ?_)
  refine lv_goto (tgt := 86) hE.1 hE.2.1 dX11_compile_168 (by decide) ?_
  exact hK86 _ _ _ _ hq hw (lv_sub hl [0] rfl)
set_option maxRecDepth 20000 in
set_option maxHeartbeats 4000000 in
theorem tb_X11_compile_b86 {p : Program} {l : Launch} {e : Env} {s : State} {m : MethodId} {args : Array Value} {below : List Frame} {meth : Method} {c : Code} {G : GG} {Φ : Int32 → S9 → Prop} {K86 : S9 → Prop} (hE : Ev 27 G p s m args c cX11_compile RX11) (hml : c.maxLocals = 2) (hr : meth.sig.returnType = (some .int)) (hlk : meth.locks = false) (hK86 : ∀  (σ : S9) (H : Heap) (locs : List Loc) (ls : Array Slot), K86  σ → Pic mwl 27 G σ s.heap H locs → lv_has ls 2 [(0, .ref (gAd G 0))] → W p l e rm_X11_compile s m args below meth c H locs 0 0 (QI mwl 27 G below args s Φ) (F0 m 86 ls []))  {σ : S9} {H : Heap} {locs : List Loc} {ls : Array Slot} (hq : bd_X11_compile_b86 K86 Φ  σ) (hw : Pic mwl 27 G σ s.heap H locs) (hl : lv_has ls 2 [(0, .ref (gAd G 0))]) : W p l e rm_X11_compile s m args below meth c H locs 0 0 (QI mwl 27 G below args s Φ) (F0 m 86 ls []) := by
  unfold bd_X11_compile_b86 at hq
  refine lv_aload_n hE.1 hE.2.1 dX11_compile_86 rfl (lv_at hl 0 rfl) ?_
  refine mgf_X11_131 hE hw dX11_compile_87 ?_
  refine lv_if_le (tgt := 171) hE.1 hE.2.1 dX11_compile_90 (by decide) (fun c1 => ?_) (fun c1 => ?_)
  · have hq := hq.1 c1
    exact tb_X11_compile_b171 hE hml hr hlk  hq hw (lv_sub hl [0] rfl)
  · have hq := hq.2 c1
    refine lv_aload_n hE.1 hE.2.1 dX11_compile_93 rfl (lv_at hl 0 rfl) ?_
    refine mgf_X11_128 hE hw dX11_compile_94 ?_
    refine lv_iconst (v := (-1 : Int32)) hE.1 hE.2.1 dX11_compile_97 (by decide) ?_
    refine lv_icmp_ne (tgt := 171) hE.1 hE.2.1 dX11_compile_98 (by decide) (fun c2 => ?_) (fun c2 => ?_)
    · have hq := hq.2 c2
      exact tb_X11_compile_b171 hE hml hr hlk  hq hw (lv_sub hl [0] rfl)
    · have hq := hq.1 c2
      refine lv_aload_n hE.1 hE.2.1 dX11_compile_101 rfl (lv_at hl 0 rfl) ?_
      refine lv_dup hE.1 hE.2.1 dX11_compile_102 rfl ?_
      refine mgf_X11_131 hE hw dX11_compile_103 ?_
      refine lv_iconst (v := (1 : Int32)) hE.1 hE.2.1 dX11_compile_106 (by decide) ?_
      refine lv_isub hE.1 hE.2.1 dX11_compile_107 ?_
      refine mpf_X11_131 hE hw dX11_compile_108 (fun σ1 eσ1 H locs hw => ?_)
      have hq := hq σ1 eσ1
      refine lv_aload_n hE.1 hE.2.1 dX11_compile_111 rfl (lv_at hl 0 rfl) ?_
      refine mgf_X11_22 hE hw dX11_compile_112 ?_
      refine lv_aload_n hE.1 hE.2.1 dX11_compile_115 rfl (lv_at hl 0 rfl) ?_
      refine mgf_X11_131 hE hw dX11_compile_116 ?_
      obtain ⟨hi3, hq⟩ := hq
      refine mal_5 hE hw hi3 dX11_compile_119 ?_
      refine lv_topi (fun x4 ex4 => ?_)
      have hq := hq x4 ex4
      refine lv_istore_n (lv' := [(1, .int x4), (0, .ref (gAd G 0))]) hE.1 hE.2.1 dX11_compile_120 rfl hl (by decide) rfl (fun ls hl => ?_)
      refine lv_iload_n hE.1 hE.2.1 dX11_compile_121 rfl (lv_at hl 0 rfl) ?_
      refine lv_iconst (v := (4 : Int32)) hE.1 hE.2.1 dX11_compile_122 (by decide) ?_
      refine lv_icmp_eq (tgt := 137) hE.1 hE.2.1 dX11_compile_123 (by decide) (fun c5 => ?_) (fun c5 => ?_)
      · have hq := hq.1 c5
        exact tb_X11_compile_b137 hE hml hr hlk hK86 hq hw (lv_sub hl [1, 0] rfl)
      · have hq := hq.2 c5
        refine lv_iload_n hE.1 hE.2.1 dX11_compile_126 rfl (lv_at hl 0 rfl) ?_
        refine lv_iconst (v := (5 : Int32)) hE.1 hE.2.1 dX11_compile_127 (by decide) ?_
        refine lv_icmp_lt (tgt := 154) hE.1 hE.2.1 dX11_compile_128 (by decide) (fun c6 => ?_) (fun c6 => ?_)
        · have hq := hq.1 c6
          exact tb_X11_compile_b154 hE hml hr hlk hK86 hq hw (lv_sub hl [1, 0] rfl)
        · have hq := hq.2 c6
          refine lv_iload_n hE.1 hE.2.1 dX11_compile_131 rfl (lv_at hl 0 rfl) ?_
          refine lv_bipush (v := (13 : Int32)) hE.1 hE.2.1 dX11_compile_132 (by decide) ?_
          refine lv_icmp_gt (tgt := 154) hE.1 hE.2.1 dX11_compile_134 (by decide) (fun c7 => ?_) (fun c7 => ?_)
          · have hq := hq.1 c7
            exact tb_X11_compile_b154 hE hml hr hlk hK86 hq hw (lv_sub hl [1, 0] rfl)
          · have hq := hq.2 c7
            exact tb_X11_compile_b137 hE hml hr hlk hK86 hq hw (lv_sub hl [1, 0] rfl)
theorem tl_X11_compile_b86 {p : Program} {l : Launch} {e : Env} {s : State} {m : MethodId} {args : Array Value} {below : List Frame} {meth : Method} {c : Code} {G : GG} {Φ : Int32 → S9 → Prop}  (hE : Ev 27 G p s m args c cX11_compile RX11) (hml : c.maxLocals = 2) (hr : meth.sig.returnType = (some .int)) (hlk : meth.locks = false)  : ∀ (n : Nat)  (σ : S9) (H : Heap) (locs : List Loc) (ls : Array Slot), lp_X11_compile_b86  Φ n  σ → Pic mwl 27 G σ s.heap H locs → lv_has ls 2 [(0, .ref (gAd G 0))] → W p l e rm_X11_compile s m args below meth c H locs 0 0 (QI mwl 27 G below args s Φ) (F0 m 86 ls []) := by
  intro n
  induction n with
  | zero => intro _ _ _ _ hq; exact hq.elim
  | succ n ih => intro _ _ _ _ hq hw hl; exact tb_X11_compile_b86 hE hml hr hlk  ih hq hw hl
set_option maxRecDepth 20000 in
set_option maxHeartbeats 4000000 in
theorem tb_X11_compile_b61 {p : Program} {l : Launch} {e : Env} {s : State} {m : MethodId} {args : Array Value} {below : List Frame} {meth : Method} {c : Code} {G : GG} {Φ : Int32 → S9 → Prop} {K61 : Int32 → S9 → Prop} (hE : Ev 27 G p s m args c cX11_compile RX11) (hml : c.maxLocals = 2) (hr : meth.sig.returnType = (some .int)) (hlk : meth.locks = false) (hK61 : ∀ (a1 : Int32) (σ : S9) (H : Heap) (locs : List Loc) (ls : Array Slot), K61 a1 σ → Pic mwl 27 G σ s.heap H locs → lv_has ls 2 [(0, .ref (gAd G 0)), (1, .int a1)] → W p l e rm_X11_compile s m args below meth c H locs 0 0 (QI mwl 27 G below args s Φ) (F0 m 61 ls [])) {a1 : Int32} {σ : S9} {H : Heap} {locs : List Loc} {ls : Array Slot} (hq : bd_X11_compile_b61 K61 Φ a1 σ) (hw : Pic mwl 27 G σ s.heap H locs) (hl : lv_has ls 2 [(0, .ref (gAd G 0)), (1, .int a1)]) : W p l e rm_X11_compile s m args below meth c H locs 0 0 (QI mwl 27 G below args s Φ) (F0 m 61 ls []) := by
  unfold bd_X11_compile_b61 at hq
  refine lv_iload_n hE.1 hE.2.1 dX11_compile_61 rfl (lv_at hl 1 rfl) ?_
  refine lv_bipush (v := (26 : Int32)) hE.1 hE.2.1 dX11_compile_62 (by decide) ?_
  refine lv_icmp_ge (tgt := 80) hE.1 hE.2.1 dX11_compile_64 (by decide) (fun c1 => ?_) (fun c1 => ?_)
  · have hq := hq.1 c1
    refine lv_aload_n hE.1 hE.2.1 dX11_compile_80 rfl (lv_at hl 0 rfl) ?_
    refine lv_iconst (v := (1 : Int32)) hE.1 hE.2.1 dX11_compile_81 (by decide) ?_
    refine lv_iconst (v := (0 : Int32)) hE.1 hE.2.1 dX11_compile_82 (by decide) ?_
    refine clVv (rest := []) (As := [.int (1 : Int32), .int (0 : Int32)]) hE hml hl.1 hw (c_X11_come hE.2.2.2.2.2 l _ _ _ _ hq) mu45 mu46 mu47 mu48 mu3 rfl (k := 2) (by decide +kernel) (by decide) (ci := 11) rfl (q0 := 0) rfl rfl rfl (Nat.le_of_ble_eq_true rfl) dX11_compile_83 (by decide) (fun σ1 hq H locs hw => ?_)
    obtain ⟨nn, hq⟩ := hq
    exact tl_X11_compile_b86 hE hml hr hlk  nn  _ _ _ _ hq hw (lv_sub hl [0] rfl)
  · have hq := hq.2 c1
    refine lv_aload_n hE.1 hE.2.1 dX11_compile_67 rfl (lv_at hl 0 rfl) ?_
    refine mgf_X11_55 hE hw dX11_compile_68 ?_
    refine lv_iload_n hE.1 hE.2.1 dX11_compile_71 rfl (lv_at hl 1 rfl) ?_
    refine lv_iconst (v := (0 : Int32)) hE.1 hE.2.1 dX11_compile_72 (by decide) ?_
    obtain ⟨hi2, hq⟩ := hq
    refine mas_16 hE hw hi2 dX11_compile_73 (fun σ2 eσ2 H locs hw => ?_)
    have hq := hq σ2 eσ2
    obtain ⟨x3, ex3⟩ : ∃ y : Int32, y = a1 + 1 := ⟨_, rfl⟩
    have hq := hq x3 ex3
    refine lv_iinc (v := x3) (lv' := [(1, .int x3), (0, .ref (gAd G 0))]) hE.1 hE.2.1 dX11_compile_74 hl (k := 1) rfl (by rw [ex3]; rfl) (by decide) rfl (fun ls hl => ?_)
    refine lv_goto (tgt := 61) hE.1 hE.2.1 dX11_compile_77 (by decide) ?_
    exact hK61 _ _ _ _ _ hq hw (lv_sub hl [1, 0] rfl)
theorem tl_X11_compile_b61 {p : Program} {l : Launch} {e : Env} {s : State} {m : MethodId} {args : Array Value} {below : List Frame} {meth : Method} {c : Code} {G : GG} {Φ : Int32 → S9 → Prop}  (hE : Ev 27 G p s m args c cX11_compile RX11) (hml : c.maxLocals = 2) (hr : meth.sig.returnType = (some .int)) (hlk : meth.locks = false)  : ∀ (n : Nat) (a1 : Int32) (σ : S9) (H : Heap) (locs : List Loc) (ls : Array Slot), lp_X11_compile_b61  Φ n a1 σ → Pic mwl 27 G σ s.heap H locs → lv_has ls 2 [(0, .ref (gAd G 0)), (1, .int a1)] → W p l e rm_X11_compile s m args below meth c H locs 0 0 (QI mwl 27 G below args s Φ) (F0 m 61 ls []) := by
  intro n
  induction n with
  | zero => intro _ _ _ _ _ hq; exact hq.elim
  | succ n ih => intro _ _ _ _ _ hq hw hl; exact tb_X11_compile_b61 hE hml hr hlk  ih hq hw hl
set_option maxRecDepth 20000 in
set_option maxHeartbeats 4000000 in
theorem c_X11_compile {G : GG} (hJ : gJ 27 G) (l : Launch)  (σ : S9) (Φ : Int32 → S9 → Prop) (hq : wp_X11_compile  σ Φ) : CI mwl 27 G l yX11_compile cX11_compile 2 (some .int) rm_X11_compile [.ref (gAd G 0)] σ Φ := by
  refine CI.intro (by decide) (Nat.le_of_ble_eq_true rfl) hJ ?_
  intro p e s m args below meth c ls hE hml hr hlk hw hl
  have hl : lv_has ls 2 [(0, .ref (gAd G 0))] := hl
  unfold wp_X11_compile at hq
  refine lv_aload_n hE.1 hE.2.1 dX11_compile_0 rfl (lv_at hl 0 rfl) ?_
  refine lv_iconst (v := (0 : Int32)) hE.1 hE.2.1 dX11_compile_1 (by decide) ?_
  refine mpf_X11_89 hE hw dX11_compile_2 (fun σ1 eσ1 H locs hw => ?_)
  have hq := hq σ1 eσ1
  refine lv_aload_n hE.1 hE.2.1 dX11_compile_5 rfl (lv_at hl 0 rfl) ?_
  refine clVv (rest := []) (As := []) hE hml hl.1 hw (c_X11_part hE.2.2.2.2.2 l _ _ hq) mu29 mu30 mu31 mu32 mu3 rfl (k := 0) (by decide +kernel) (by decide) (ci := 11) rfl (q0 := 0) rfl rfl rfl (Nat.le_of_ble_eq_true rfl) dX11_compile_6 (by decide) (fun σ2 hq H locs hw => ?_)
  refine lv_aload_n hE.1 hE.2.1 dX11_compile_9 rfl (lv_at hl 0 rfl) ?_
  refine lv_iconst (v := (0 : Int32)) hE.1 hE.2.1 dX11_compile_10 (by decide) ?_
  refine mpf_X11_125 hE hw dX11_compile_11 (fun σ3 eσ3 H locs hw => ?_)
  have hq := hq σ3 eσ3
  refine lv_aload_n hE.1 hE.2.1 dX11_compile_14 rfl (lv_at hl 0 rfl) ?_
  refine lv_iconst (v := (-1 : Int32)) hE.1 hE.2.1 dX11_compile_15 (by decide) ?_
  refine mpf_X11_128 hE hw dX11_compile_16 (fun σ4 eσ4 H locs hw => ?_)
  have hq := hq σ4 eσ4
  refine lv_aload_n hE.1 hE.2.1 dX11_compile_19 rfl (lv_at hl 0 rfl) ?_
  refine lv_iconst (v := (0 : Int32)) hE.1 hE.2.1 dX11_compile_20 (by decide) ?_
  refine mpf_X11_131 hE hw dX11_compile_21 (fun σ5 eσ5 H locs hw => ?_)
  have hq := hq σ5 eσ5
  refine lv_aload_n hE.1 hE.2.1 dX11_compile_24 rfl (lv_at hl 0 rfl) ?_
  refine lv_iconst (v := (0 : Int32)) hE.1 hE.2.1 dX11_compile_25 (by decide) ?_
  refine mpf_X11_182 hE hw dX11_compile_26 (fun σ6 eσ6 H locs hw => ?_)
  have hq := hq σ6 eσ6
  refine lv_aload_n hE.1 hE.2.1 dX11_compile_29 rfl (lv_at hl 0 rfl) ?_
  refine lv_iconst (v := (0 : Int32)) hE.1 hE.2.1 dX11_compile_30 (by decide) ?_
  refine mpf_X11_172 hE hw dX11_compile_31 (fun σ7 eσ7 H locs hw => ?_)
  have hq := hq σ7 eσ7
  refine lv_aload_n hE.1 hE.2.1 dX11_compile_34 rfl (lv_at hl 0 rfl) ?_
  refine lv_iconst (v := (0 : Int32)) hE.1 hE.2.1 dX11_compile_35 (by decide) ?_
  refine mpf_X11_150 hE hw dX11_compile_36 (fun σ8 eσ8 H locs hw => ?_)
  have hq := hq σ8 eσ8
  refine lv_aload_n hE.1 hE.2.1 dX11_compile_39 rfl (lv_at hl 0 rfl) ?_
  refine lv_iconst (v := (0 : Int32)) hE.1 hE.2.1 dX11_compile_40 (by decide) ?_
  refine mpf_X11_134 hE hw dX11_compile_41 (fun σ9 eσ9 H locs hw => ?_)
  have hq := hq σ9 eσ9
  refine lv_aload_n hE.1 hE.2.1 dX11_compile_44 rfl (lv_at hl 0 rfl) ?_
  refine lv_iconst (v := (0 : Int32)) hE.1 hE.2.1 dX11_compile_45 (by decide) ?_
  refine mpf_X11_137 hE hw dX11_compile_46 (fun σ10 eσ10 H locs hw => ?_)
  have hq := hq σ10 eσ10
  refine lv_aload_n hE.1 hE.2.1 dX11_compile_49 rfl (lv_at hl 0 rfl) ?_
  refine lv_iconst (v := (0 : Int32)) hE.1 hE.2.1 dX11_compile_50 (by decide) ?_
  refine mpf_X11_189 hE hw dX11_compile_51 (fun σ11 eσ11 H locs hw => ?_)
  have hq := hq σ11 eσ11
  refine lv_aload_n hE.1 hE.2.1 dX11_compile_54 rfl (lv_at hl 0 rfl) ?_
  refine lv_iconst (v := (0 : Int32)) hE.1 hE.2.1 dX11_compile_55 (by decide) ?_
  refine mpf_X11_202 hE hw rfl (by decide) dX11_compile_56 (fun σ12 eσ12 H locs hw => ?_)
  have hq := hq σ12 eσ12
  refine lv_iconst (v := (0 : Int32)) hE.1 hE.2.1 dX11_compile_59 (by decide) ?_
  refine lv_topi (fun x1 ex1 => ?_)
  have hq := hq x1 ex1
  refine lv_istore_n (lv' := [(1, .int x1), (0, .ref (gAd G 0))]) hE.1 hE.2.1 dX11_compile_60 rfl hl (by decide) rfl (fun ls hl => ?_)
  obtain ⟨nn, hq⟩ := hq
  exact tl_X11_compile_b61 hE hml hr hlk  nn _ _ _ _ _ hq hw (lv_sub hl [1, 0] rfl)
/-! QueueBenchModel.give(I)I -/
abbrev rm_X11_give : Room := { frames := 1, cells := 0, slots := 0, locals := 22 }
def wp_X11_give_b16  (Φ : Int32 → S9 → Prop) (a1 : Int32) (t0 : Int32) (σ : S9) : Prop := wp_X11_goes t0 (1 : Int32) σ (fun r1 σ1 => (r1 = 0 → Φ (0 : Int32) σ1) ∧ (¬ r1 = 0 → vp_in (σ1.1 22) 300 ∧ ∀ σ2 : S9, σ2 = sA σ1 24 (upd (σ1.2.1 24) ((σ1.1 22)).toNatClampNeg a1) → ∀ σ3 : S9, σ3 = sF σ2 22 ((σ2.1 22) + (1 : Int32)) → Φ (σ3.1 22) σ3))
def wp_X11_give (a1 : Int32) (σ : S9) (Φ : Int32 → S9 → Prop) : Prop := ((300 : Int32) ≤ (σ.1 22) → wp_X11_give_b16  Φ a1 (0 : Int32) σ) ∧ (¬ (300 : Int32) ≤ (σ.1 22) → wp_X11_give_b16  Φ a1 (1 : Int32) σ)
theorem dX11_give_0 : decode cX11_give 0 = .ok (.aload_n 0, 1) := by decide +kernel
theorem dX11_give_1 : decode cX11_give 1 = .ok (.aload_n 0, 1) := by decide +kernel
theorem dX11_give_2 : decode cX11_give 2 = .ok (.getfield 215, 3) := by decide +kernel
theorem dX11_give_5 : decode cX11_give 5 = .ok (.sipush 300, 3) := by decide +kernel
theorem dX11_give_8 : decode cX11_give 8 = .ok (.if_icmp .ge 7, 3) := by decide +kernel
theorem dX11_give_11 : decode cX11_give 11 = .ok (.iconst 1, 1) := by decide +kernel
theorem dX11_give_12 : decode cX11_give 12 = .ok (.goto 4, 3) := by decide +kernel
theorem dX11_give_15 : decode cX11_give 15 = .ok (.iconst 0, 1) := by decide +kernel
theorem dX11_give_16 : decode cX11_give 16 = .ok (.iconst 1, 1) := by decide +kernel
theorem dX11_give_17 : decode cX11_give 17 = .ok (.invokevirtual 100, 3) := by decide +kernel
theorem dX11_give_20 : decode cX11_give 20 = .ok (.ifCond .ne 5, 3) := by decide +kernel
theorem dX11_give_23 : decode cX11_give 23 = .ok (.iconst 0, 1) := by decide +kernel
theorem dX11_give_24 : decode cX11_give 24 = .ok (.ireturn, 1) := by decide +kernel
theorem dX11_give_25 : decode cX11_give 25 = .ok (.aload_n 0, 1) := by decide +kernel
theorem dX11_give_26 : decode cX11_give 26 = .ok (.getfield 83, 3) := by decide +kernel
theorem dX11_give_29 : decode cX11_give 29 = .ok (.aload_n 0, 1) := by decide +kernel
theorem dX11_give_30 : decode cX11_give 30 = .ok (.getfield 215, 3) := by decide +kernel
theorem dX11_give_33 : decode cX11_give 33 = .ok (.iload_n 1, 1) := by decide +kernel
theorem dX11_give_34 : decode cX11_give 34 = .ok (.iastore, 1) := by decide +kernel
theorem dX11_give_35 : decode cX11_give 35 = .ok (.aload_n 0, 1) := by decide +kernel
theorem dX11_give_36 : decode cX11_give 36 = .ok (.dup, 1) := by decide +kernel
theorem dX11_give_37 : decode cX11_give 37 = .ok (.getfield 215, 3) := by decide +kernel
theorem dX11_give_40 : decode cX11_give 40 = .ok (.iconst 1, 1) := by decide +kernel
theorem dX11_give_41 : decode cX11_give 41 = .ok (.iadd, 1) := by decide +kernel
theorem dX11_give_42 : decode cX11_give 42 = .ok (.putfield 215, 3) := by decide +kernel
theorem dX11_give_45 : decode cX11_give 45 = .ok (.aload_n 0, 1) := by decide +kernel
theorem dX11_give_46 : decode cX11_give 46 = .ok (.getfield 215, 3) := by decide +kernel
theorem dX11_give_49 : decode cX11_give 49 = .ok (.ireturn, 1) := by decide +kernel
set_option maxRecDepth 20000 in
set_option maxHeartbeats 4000000 in
theorem tb_X11_give_b16 {p : Program} {l : Launch} {e : Env} {s : State} {m : MethodId} {args : Array Value} {below : List Frame} {meth : Method} {c : Code} {G : GG} {Φ : Int32 → S9 → Prop}  (hE : Ev 27 G p s m args c cX11_give RX11) (hml : c.maxLocals = 2) (hr : meth.sig.returnType = (some .int)) (hlk : meth.locks = false)  {a1 : Int32} {t0 : Int32} {σ : S9} {H : Heap} {locs : List Loc} {ls : Array Slot} (hq : wp_X11_give_b16  Φ a1 t0 σ) (hw : Pic mwl 27 G σ s.heap H locs) (hl : lv_has ls 2 [(0, .ref (gAd G 0)), (1, .int a1)]) : W p l e rm_X11_give s m args below meth c H locs 0 0 (QI mwl 27 G below args s Φ) (F0 m 16 ls [.int t0, .ref (gAd G 0)]) := by
  unfold wp_X11_give_b16 at hq
  refine lv_iconst (v := (1 : Int32)) hE.1 hE.2.1 dX11_give_16 (by decide) ?_
  refine clVi (rest := []) (As := [.int t0, .int (1 : Int32)]) hE hml hl.1 hw (c_X11_goes hE.2.2.2.2.2 l _ _ _ _ hq) mu6 mu7 mu8 mu9 mu3 rfl (k := 2) (by decide +kernel) (by decide) (ci := 11) rfl (q0 := 0) rfl rfl rfl (Nat.le_of_ble_eq_true rfl) dX11_give_17 (by decide) (fun r1 σ1 hq H locs hw => ?_)
  refine lv_if_ne (tgt := 25) hE.1 hE.2.1 dX11_give_20 (by decide) (fun c2 => ?_) (fun c2 => ?_)
  · have hq := hq.2 c2
    refine lv_aload_n hE.1 hE.2.1 dX11_give_25 rfl (lv_at hl 0 rfl) ?_
    refine mgf_X11_83 hE hw dX11_give_26 ?_
    refine lv_aload_n hE.1 hE.2.1 dX11_give_29 rfl (lv_at hl 0 rfl) ?_
    refine mgf_X11_215 hE hw dX11_give_30 ?_
    refine lv_iload_n hE.1 hE.2.1 dX11_give_33 rfl (lv_at hl 1 rfl) ?_
    obtain ⟨hi3, hq⟩ := hq
    refine mas_25 hE hw hi3 dX11_give_34 (fun σ2 eσ2 H locs hw => ?_)
    have hq := hq σ2 eσ2
    refine lv_aload_n hE.1 hE.2.1 dX11_give_35 rfl (lv_at hl 0 rfl) ?_
    refine lv_dup hE.1 hE.2.1 dX11_give_36 rfl ?_
    refine mgf_X11_215 hE hw dX11_give_37 ?_
    refine lv_iconst (v := (1 : Int32)) hE.1 hE.2.1 dX11_give_40 (by decide) ?_
    refine lv_iadd hE.1 hE.2.1 dX11_give_41 ?_
    refine mpf_X11_215 hE hw dX11_give_42 (fun σ3 eσ3 H locs hw => ?_)
    have hq := hq σ3 eσ3
    refine lv_aload_n hE.1 hE.2.1 dX11_give_45 rfl (lv_at hl 0 rfl) ?_
    refine mgf_X11_215 hE hw dX11_give_46 ?_
    exact rtI hE hr hlk hw hq dX11_give_49
  · have hq := hq.1 c2
    refine lv_iconst (v := (0 : Int32)) hE.1 hE.2.1 dX11_give_23 (by decide) ?_
    exact rtI hE hr hlk hw hq dX11_give_24
set_option maxRecDepth 20000 in
set_option maxHeartbeats 4000000 in
theorem c_X11_give {G : GG} (hJ : gJ 27 G) (l : Launch) (a1 : Int32) (σ : S9) (Φ : Int32 → S9 → Prop) (hq : wp_X11_give a1 σ Φ) : CI mwl 27 G l yX11_give cX11_give 2 (some .int) rm_X11_give [.ref (gAd G 0), .int a1] σ Φ := by
  refine CI.intro (by decide) (Nat.le_of_ble_eq_true rfl) hJ ?_
  intro p e s m args below meth c ls hE hml hr hlk hw hl
  have hl : lv_has ls 2 [(0, .ref (gAd G 0)), (1, .int a1)] := hl
  unfold wp_X11_give at hq
  refine lv_aload_n hE.1 hE.2.1 dX11_give_0 rfl (lv_at hl 0 rfl) ?_
  refine lv_aload_n hE.1 hE.2.1 dX11_give_1 rfl (lv_at hl 0 rfl) ?_
  refine mgf_X11_215 hE hw dX11_give_2 ?_
  refine lv_sipush (v := (300 : Int32)) hE.1 hE.2.1 dX11_give_5 (by decide) ?_
  refine lv_icmp_ge (tgt := 15) hE.1 hE.2.1 dX11_give_8 (by decide) (fun c1 => ?_) (fun c1 => ?_)
  · have hq := hq.1 c1
    refine lv_iconst (v := (0 : Int32)) hE.1 hE.2.1 dX11_give_15 (by decide) ?_
    exact tb_X11_give_b16 hE hml hr hlk  hq hw (lv_sub hl [0, 1] rfl)
  · have hq := hq.2 c1
    refine lv_iconst (v := (1 : Int32)) hE.1 hE.2.1 dX11_give_11 (by decide) ?_
    refine lv_goto (tgt := 16) hE.1 hE.2.1 dX11_give_12 (by decide) ?_
    exact tb_X11_give_b16 hE hml hr hlk  hq hw (lv_sub hl [0, 1] rfl)
/-! QueueBenchModel.settle()V -/
abbrev rm_X11_settle : Room := { frames := 0, cells := 0, slots := 0, locals := 0 }
def wp_X11_settle_b28 (K0 : S9 → Prop) (Φ : S9 → Prop)  (σ : S9) : Prop := vp_in (σ.1 17) 1200 ∧ ((σ.2.1 6 ((σ.1 17)).toNatClampNeg) = (11 : Int32) → vp_in (σ.1 17) 1200 ∧ ∀ σ3 : S9, σ3 = sF σ 17 (σ.2.1 7 ((σ.1 17)).toNatClampNeg) → K0 σ3) ∧ (¬ (σ.2.1 6 ((σ.1 17)).toNatClampNeg) = (11 : Int32) → ∀ σ1 : S9, σ1 = sF σ 20 ((σ.1 20) - (1 : Int32)) → vp_in (σ1.1 20) 30 ∧ ∀ σ2 : S9, σ2 = sF σ1 17 (σ1.2.1 20 ((σ1.1 20)).toNatClampNeg) → K0 σ2)
def bd_X11_settle_b0 (K0 : S9 → Prop) (Φ : S9 → Prop)  (σ : S9) : Prop := vp_in (σ.1 17) 1200 ∧ ((σ.2.1 6 ((σ.1 17)).toNatClampNeg) = (11 : Int32) → wp_X11_settle_b28 K0 Φ σ) ∧ (¬ (σ.2.1 6 ((σ.1 17)).toNatClampNeg) = (11 : Int32) → vp_in (σ.1 17) 1200 ∧ ((σ.2.1 6 ((σ.1 17)).toNatClampNeg) = (12 : Int32) → wp_X11_settle_b28 K0 Φ σ) ∧ (¬ (σ.2.1 6 ((σ.1 17)).toNatClampNeg) = (12 : Int32) → Φ σ))
def lp_X11_settle_b0  (Φ : S9 → Prop) : Nat → S9 → Prop
  | 0 => fun _ => False
  | n + 1 => bd_X11_settle_b0  (lp_X11_settle_b0  Φ n) Φ
def wp_X11_settle  (σ : S9) (Φ : S9 → Prop) : Prop := ∃ n : Nat, lp_X11_settle_b0  Φ n σ
theorem dX11_settle_0 : decode cX11_settle 0 = .ok (.aload_n 0, 1) := by decide +kernel
theorem dX11_settle_1 : decode cX11_settle 1 = .ok (.getfield 28, 3) := by decide +kernel
theorem dX11_settle_4 : decode cX11_settle 4 = .ok (.aload_n 0, 1) := by decide +kernel
theorem dX11_settle_5 : decode cX11_settle 5 = .ok (.getfield 218, 3) := by decide +kernel
theorem dX11_settle_8 : decode cX11_settle 8 = .ok (.iaload, 1) := by decide +kernel
theorem dX11_settle_9 : decode cX11_settle 9 = .ok (.bipush 11, 2) := by decide +kernel
theorem dX11_settle_11 : decode cX11_settle 11 = .ok (.if_icmp .eq 17, 3) := by decide +kernel
theorem dX11_settle_14 : decode cX11_settle 14 = .ok (.aload_n 0, 1) := by decide +kernel
theorem dX11_settle_15 : decode cX11_settle 15 = .ok (.getfield 28, 3) := by decide +kernel
theorem dX11_settle_18 : decode cX11_settle 18 = .ok (.aload_n 0, 1) := by decide +kernel
theorem dX11_settle_19 : decode cX11_settle 19 = .ok (.getfield 218, 3) := by decide +kernel
theorem dX11_settle_22 : decode cX11_settle 22 = .ok (.iaload, 1) := by decide +kernel
theorem dX11_settle_23 : decode cX11_settle 23 = .ok (.bipush 12, 2) := by decide +kernel
theorem dX11_settle_25 : decode cX11_settle 25 = .ok (.if_icmp .ne 59, 3) := by decide +kernel
theorem dX11_settle_28 : decode cX11_settle 28 = .ok (.aload_n 0, 1) := by decide +kernel
theorem dX11_settle_29 : decode cX11_settle 29 = .ok (.getfield 28, 3) := by decide +kernel
theorem dX11_settle_32 : decode cX11_settle 32 = .ok (.aload_n 0, 1) := by decide +kernel
theorem dX11_settle_33 : decode cX11_settle 33 = .ok (.getfield 218, 3) := by decide +kernel
theorem dX11_settle_36 : decode cX11_settle 36 = .ok (.iaload, 1) := by decide +kernel
theorem dX11_settle_37 : decode cX11_settle 37 = .ok (.bipush 11, 2) := by decide +kernel
theorem dX11_settle_39 : decode cX11_settle 39 = .ok (.if_icmp .ne 19, 3) := by decide +kernel
theorem dX11_settle_42 : decode cX11_settle 42 = .ok (.aload_n 0, 1) := by decide +kernel
theorem dX11_settle_43 : decode cX11_settle 43 = .ok (.aload_n 0, 1) := by decide +kernel
theorem dX11_settle_44 : decode cX11_settle 44 = .ok (.getfield 31, 3) := by decide +kernel
theorem dX11_settle_47 : decode cX11_settle 47 = .ok (.aload_n 0, 1) := by decide +kernel
theorem dX11_settle_48 : decode cX11_settle 48 = .ok (.getfield 218, 3) := by decide +kernel
theorem dX11_settle_51 : decode cX11_settle 51 = .ok (.iaload, 1) := by decide +kernel
theorem dX11_settle_52 : decode cX11_settle 52 = .ok (.putfield 218, 3) := by decide +kernel
theorem dX11_settle_55 : decode cX11_settle 55 = .ok (.goto (-55), 3) := by decide +kernel
theorem dX11_settle_58 : decode cX11_settle 58 = .ok (.aload_n 0, 1) := by decide +kernel
theorem dX11_settle_59 : decode cX11_settle 59 = .ok (.dup, 1) := by decide +kernel
theorem dX11_settle_60 : decode cX11_settle 60 = .ok (.getfield 221, 3) := by decide +kernel
theorem dX11_settle_63 : decode cX11_settle 63 = .ok (.iconst 1, 1) := by decide +kernel
theorem dX11_settle_64 : decode cX11_settle 64 = .ok (.isub, 1) := by decide +kernel
theorem dX11_settle_65 : decode cX11_settle 65 = .ok (.putfield 221, 3) := by decide +kernel
theorem dX11_settle_68 : decode cX11_settle 68 = .ok (.aload_n 0, 1) := by decide +kernel
theorem dX11_settle_69 : decode cX11_settle 69 = .ok (.aload_n 0, 1) := by decide +kernel
theorem dX11_settle_70 : decode cX11_settle 70 = .ok (.getfield 71, 3) := by decide +kernel
theorem dX11_settle_73 : decode cX11_settle 73 = .ok (.aload_n 0, 1) := by decide +kernel
theorem dX11_settle_74 : decode cX11_settle 74 = .ok (.getfield 221, 3) := by decide +kernel
theorem dX11_settle_77 : decode cX11_settle 77 = .ok (.iaload, 1) := by decide +kernel
theorem dX11_settle_78 : decode cX11_settle 78 = .ok (.putfield 218, 3) := by decide +kernel
theorem dX11_settle_81 : decode cX11_settle 81 = .ok (.goto (-81), 3) := by decide +kernel
theorem dX11_settle_84 : decode cX11_settle 84 = .ok (.return_, 1) := by decide +kernel
set_option maxRecDepth 20000 in
set_option maxHeartbeats 4000000 in
theorem tb_X11_settle_b28 {p : Program} {l : Launch} {e : Env} {s : State} {m : MethodId} {args : Array Value} {below : List Frame} {meth : Method} {c : Code} {G : GG} {Φ : S9 → Prop} {K0 : S9 → Prop} (hE : Ev 27 G p s m args c cX11_settle RX11) (hml : c.maxLocals = 1) (hr : meth.sig.returnType = none) (hlk : meth.locks = false) (hK0 : ∀  (σ : S9) (H : Heap) (locs : List Loc) (ls : Array Slot), K0  σ → Pic mwl 27 G σ s.heap H locs → lv_has ls 1 [(0, .ref (gAd G 0))] → W p l e rm_X11_settle s m args below meth c H locs 0 0 (QV mwl 27 G below args s Φ) (F0 m 0 ls []))  {σ : S9} {H : Heap} {locs : List Loc} {ls : Array Slot} (hq : wp_X11_settle_b28 K0 Φ  σ) (hw : Pic mwl 27 G σ s.heap H locs) (hl : lv_has ls 1 [(0, .ref (gAd G 0))]) : W p l e rm_X11_settle s m args below meth c H locs 0 0 (QV mwl 27 G below args s Φ) (F0 m 28 ls []) := by
  unfold wp_X11_settle_b28 at hq
  refine lv_aload_n hE.1 hE.2.1 dX11_settle_28 rfl (lv_at hl 0 rfl) ?_
  refine mgf_X11_28 hE hw dX11_settle_29 ?_
  refine lv_aload_n hE.1 hE.2.1 dX11_settle_32 rfl (lv_at hl 0 rfl) ?_
  refine mgf_X11_218 hE hw dX11_settle_33 ?_
  obtain ⟨hi1, hq⟩ := hq
  refine mal_7 hE hw hi1 dX11_settle_36 ?_
  refine lv_bipush (v := (11 : Int32)) hE.1 hE.2.1 dX11_settle_37 (by decide) ?_
  refine lv_icmp_ne (tgt := 58) hE.1 hE.2.1 dX11_settle_39 (by decide) (fun c2 => ?_) (fun c2 => ?_)
  · have hq := hq.2 c2
    refine lv_aload_n hE.1 hE.2.1 dX11_settle_58 rfl (lv_at hl 0 rfl) ?_
    refine lv_dup hE.1 hE.2.1 dX11_settle_59 rfl ?_
    refine mgf_X11_221 hE hw dX11_settle_60 ?_
    refine lv_iconst (v := (1 : Int32)) hE.1 hE.2.1 dX11_settle_63 (by decide) ?_
    refine lv_isub hE.1 hE.2.1 dX11_settle_64 ?_
    refine mpf_X11_221 hE hw dX11_settle_65 (fun σ1 eσ1 H locs hw => ?_)
    have hq := hq σ1 eσ1
    refine lv_aload_n hE.1 hE.2.1 dX11_settle_68 rfl (lv_at hl 0 rfl) ?_
    refine lv_aload_n hE.1 hE.2.1 dX11_settle_69 rfl (lv_at hl 0 rfl) ?_
    refine mgf_X11_71 hE hw dX11_settle_70 ?_
    refine lv_aload_n hE.1 hE.2.1 dX11_settle_73 rfl (lv_at hl 0 rfl) ?_
    refine mgf_X11_221 hE hw dX11_settle_74 ?_
    obtain ⟨hi3, hq⟩ := hq
    refine mal_21 hE hw hi3 dX11_settle_77 ?_
    refine mpf_X11_218 hE hw dX11_settle_78 (fun σ2 eσ2 H locs hw => ?_)
    have hq := hq σ2 eσ2
    refine lv_goto (tgt := 0) hE.1 hE.2.1 dX11_settle_81 (by decide) ?_
    exact hK0 _ _ _ _ hq hw (lv_sub hl [0] rfl)
  · have hq := hq.1 c2
    refine lv_aload_n hE.1 hE.2.1 dX11_settle_42 rfl (lv_at hl 0 rfl) ?_
    refine lv_aload_n hE.1 hE.2.1 dX11_settle_43 rfl (lv_at hl 0 rfl) ?_
    refine mgf_X11_31 hE hw dX11_settle_44 ?_
    refine lv_aload_n hE.1 hE.2.1 dX11_settle_47 rfl (lv_at hl 0 rfl) ?_
    refine mgf_X11_218 hE hw dX11_settle_48 ?_
    obtain ⟨hi4, hq⟩ := hq
    refine mal_8 hE hw hi4 dX11_settle_51 ?_
    refine mpf_X11_218 hE hw dX11_settle_52 (fun σ3 eσ3 H locs hw => ?_)
    have hq := hq σ3 eσ3
    refine lv_goto (tgt := 0) hE.1 hE.2.1 dX11_settle_55 (by decide) ?_
    exact hK0 _ _ _ _ hq hw (lv_sub hl [0] rfl)
set_option maxRecDepth 20000 in
set_option maxHeartbeats 4000000 in
theorem tb_X11_settle_b0 {p : Program} {l : Launch} {e : Env} {s : State} {m : MethodId} {args : Array Value} {below : List Frame} {meth : Method} {c : Code} {G : GG} {Φ : S9 → Prop} {K0 : S9 → Prop} (hE : Ev 27 G p s m args c cX11_settle RX11) (hml : c.maxLocals = 1) (hr : meth.sig.returnType = none) (hlk : meth.locks = false) (hK0 : ∀  (σ : S9) (H : Heap) (locs : List Loc) (ls : Array Slot), K0  σ → Pic mwl 27 G σ s.heap H locs → lv_has ls 1 [(0, .ref (gAd G 0))] → W p l e rm_X11_settle s m args below meth c H locs 0 0 (QV mwl 27 G below args s Φ) (F0 m 0 ls []))  {σ : S9} {H : Heap} {locs : List Loc} {ls : Array Slot} (hq : bd_X11_settle_b0 K0 Φ  σ) (hw : Pic mwl 27 G σ s.heap H locs) (hl : lv_has ls 1 [(0, .ref (gAd G 0))]) : W p l e rm_X11_settle s m args below meth c H locs 0 0 (QV mwl 27 G below args s Φ) (F0 m 0 ls []) := by
  unfold bd_X11_settle_b0 at hq
  refine lv_aload_n hE.1 hE.2.1 dX11_settle_0 rfl (lv_at hl 0 rfl) ?_
  refine mgf_X11_28 hE hw dX11_settle_1 ?_
  refine lv_aload_n hE.1 hE.2.1 dX11_settle_4 rfl (lv_at hl 0 rfl) ?_
  refine mgf_X11_218 hE hw dX11_settle_5 ?_
  obtain ⟨hi1, hq⟩ := hq
  refine mal_7 hE hw hi1 dX11_settle_8 ?_
  refine lv_bipush (v := (11 : Int32)) hE.1 hE.2.1 dX11_settle_9 (by decide) ?_
  refine lv_icmp_eq (tgt := 28) hE.1 hE.2.1 dX11_settle_11 (by decide) (fun c2 => ?_) (fun c2 => ?_)
  · have hq := hq.1 c2
    exact tb_X11_settle_b28 hE hml hr hlk hK0 hq hw (lv_sub hl [0] rfl)
  · have hq := hq.2 c2
    refine lv_aload_n hE.1 hE.2.1 dX11_settle_14 rfl (lv_at hl 0 rfl) ?_
    refine mgf_X11_28 hE hw dX11_settle_15 ?_
    refine lv_aload_n hE.1 hE.2.1 dX11_settle_18 rfl (lv_at hl 0 rfl) ?_
    refine mgf_X11_218 hE hw dX11_settle_19 ?_
    obtain ⟨hi3, hq⟩ := hq
    refine mal_7 hE hw hi3 dX11_settle_22 ?_
    refine lv_bipush (v := (12 : Int32)) hE.1 hE.2.1 dX11_settle_23 (by decide) ?_
    refine lv_icmp_ne (tgt := 84) hE.1 hE.2.1 dX11_settle_25 (by decide) (fun c4 => ?_) (fun c4 => ?_)
    · have hq := hq.2 c4
      exact rtV hE hr hlk hw hq dX11_settle_84
    · have hq := hq.1 c4
      exact tb_X11_settle_b28 hE hml hr hlk hK0 hq hw (lv_sub hl [0] rfl)
theorem tl_X11_settle_b0 {p : Program} {l : Launch} {e : Env} {s : State} {m : MethodId} {args : Array Value} {below : List Frame} {meth : Method} {c : Code} {G : GG} {Φ : S9 → Prop}  (hE : Ev 27 G p s m args c cX11_settle RX11) (hml : c.maxLocals = 1) (hr : meth.sig.returnType = none) (hlk : meth.locks = false)  : ∀ (n : Nat)  (σ : S9) (H : Heap) (locs : List Loc) (ls : Array Slot), lp_X11_settle_b0  Φ n  σ → Pic mwl 27 G σ s.heap H locs → lv_has ls 1 [(0, .ref (gAd G 0))] → W p l e rm_X11_settle s m args below meth c H locs 0 0 (QV mwl 27 G below args s Φ) (F0 m 0 ls []) := by
  intro n
  induction n with
  | zero => intro _ _ _ _ hq; exact hq.elim
  | succ n ih => intro _ _ _ _ hq hw hl; exact tb_X11_settle_b0 hE hml hr hlk  ih hq hw hl
set_option maxRecDepth 20000 in
set_option maxHeartbeats 4000000 in
theorem c_X11_settle {G : GG} (hJ : gJ 27 G) (l : Launch)  (σ : S9) (Φ : S9 → Prop) (hq : wp_X11_settle  σ Φ) : CV mwl 27 G l yX11_settle cX11_settle 1 rm_X11_settle [.ref (gAd G 0)] σ Φ := by
  refine CV.intro (by decide) (Nat.le_of_ble_eq_true rfl) hJ ?_
  intro p e s m args below meth c ls hE hml hr hlk hw hl
  have hl : lv_has ls 1 [(0, .ref (gAd G 0))] := hl
  unfold wp_X11_settle at hq
  obtain ⟨nn, hq⟩ := hq
  exact tl_X11_settle_b0 hE hml hr hlk  nn  _ _ _ _ hq hw (lv_sub hl [0] rfl)
/-! QueueBenchModel.start()V -/
abbrev rm_X11_start : Room := { frames := 1, cells := 0, slots := 0, locals := 22 }
def bd_X11_start_b71 (K71 : Int32 → S9 → Prop) (Φ : S9 → Prop) (a1 : Int32) (σ : S9) : Prop := ((100 : Int32) ≤ a1 → wp_X11_settle σ (fun σ1 => Φ σ1)) ∧ (¬ (100 : Int32) ≤ a1 → vp_in a1 100 ∧ ∀ σ2 : S9, σ2 = sA σ 22 (upd (σ.2.1 22) (a1).toNatClampNeg (0 : Int32)) → ∀ x3 : Int32, x3 = a1 + 1 → K71 x3 σ2)
def lp_X11_start_b71  (Φ : S9 → Prop) : Nat → Int32 → S9 → Prop
  | 0 => fun _ _ => False
  | n + 1 => bd_X11_start_b71  (lp_X11_start_b71  Φ n) Φ
def bd_X11_start_b50 (K50 : Int32 → S9 → Prop) (Φ : S9 → Prop) (a1 : Int32) (σ : S9) : Prop := ((26 : Int32) ≤ a1 → ∀ x2 : Int32, x2 = (0 : Int32) → ∃ n : Nat, lp_X11_start_b71  Φ n x2 σ) ∧ (¬ (26 : Int32) ≤ a1 → vp_in a1 26 ∧ ∀ σ1 : S9, σ1 = sA σ 21 (upd (σ.2.1 21) (a1).toNatClampNeg (0 : Int32)) → ∀ x4 : Int32, x4 = a1 + 1 → K50 x4 σ1)
def lp_X11_start_b50  (Φ : S9 → Prop) : Nat → Int32 → S9 → Prop
  | 0 => fun _ _ => False
  | n + 1 => bd_X11_start_b50  (lp_X11_start_b50  Φ n) Φ
def wp_X11_start  (σ : S9) (Φ : S9 → Prop) : Prop := wp_X11_goes (σ.1 10) (1 : Int32) σ (fun r1 σ1 => (r1 = 0 → Φ σ1) ∧ (¬ r1 = 0 → ∀ σ2 : S9, σ2 = sF σ1 16 (1 : Int32) → ∀ σ3 : S9, σ3 = sF σ2 17 (0 : Int32) → ∀ σ4 : S9, σ4 = sF σ3 18 (0 : Int32) → ∀ σ5 : S9, σ5 = sF σ4 19 (0 : Int32) → ∀ σ6 : S9, σ6 = sF σ5 20 (0 : Int32) → ∀ σ7 : S9, σ7 = sF σ6 21 (0 : Int32) → ∀ σ8 : S9, σ8 = sF σ7 23 (0 : Int32) → ∀ x3 : Int32, x3 = (0 : Int32) → ∃ n : Nat, lp_X11_start_b50  Φ n x3 σ8))
theorem dX11_start_0 : decode cX11_start 0 = .ok (.aload_n 0, 1) := by decide +kernel
theorem dX11_start_1 : decode cX11_start 1 = .ok (.aload_n 0, 1) := by decide +kernel
theorem dX11_start_2 : decode cX11_start 2 = .ok (.getfield 212, 3) := by decide +kernel
theorem dX11_start_5 : decode cX11_start 5 = .ok (.iconst 1, 1) := by decide +kernel
theorem dX11_start_6 : decode cX11_start 6 = .ok (.invokevirtual 100, 3) := by decide +kernel
theorem dX11_start_9 : decode cX11_start 9 = .ok (.ifCond .ne 4, 3) := by decide +kernel
theorem dX11_start_12 : decode cX11_start 12 = .ok (.return_, 1) := by decide +kernel
theorem dX11_start_13 : decode cX11_start 13 = .ok (.aload_n 0, 1) := by decide +kernel
theorem dX11_start_14 : decode cX11_start 14 = .ok (.iconst 1, 1) := by decide +kernel
theorem dX11_start_15 : decode cX11_start 15 = .ok (.putfield 202, 3) := by decide +kernel
theorem dX11_start_18 : decode cX11_start 18 = .ok (.aload_n 0, 1) := by decide +kernel
theorem dX11_start_19 : decode cX11_start 19 = .ok (.iconst 0, 1) := by decide +kernel
theorem dX11_start_20 : decode cX11_start 20 = .ok (.putfield 218, 3) := by decide +kernel
theorem dX11_start_23 : decode cX11_start 23 = .ok (.aload_n 0, 1) := by decide +kernel
theorem dX11_start_24 : decode cX11_start 24 = .ok (.iconst 0, 1) := by decide +kernel
theorem dX11_start_25 : decode cX11_start 25 = .ok (.putfield 224, 3) := by decide +kernel
theorem dX11_start_28 : decode cX11_start 28 = .ok (.aload_n 0, 1) := by decide +kernel
theorem dX11_start_29 : decode cX11_start 29 = .ok (.iconst 0, 1) := by decide +kernel
theorem dX11_start_30 : decode cX11_start 30 = .ok (.putfield 227, 3) := by decide +kernel
theorem dX11_start_33 : decode cX11_start 33 = .ok (.aload_n 0, 1) := by decide +kernel
theorem dX11_start_34 : decode cX11_start 34 = .ok (.iconst 0, 1) := by decide +kernel
theorem dX11_start_35 : decode cX11_start 35 = .ok (.putfield 221, 3) := by decide +kernel
theorem dX11_start_38 : decode cX11_start 38 = .ok (.aload_n 0, 1) := by decide +kernel
theorem dX11_start_39 : decode cX11_start 39 = .ok (.iconst 0, 1) := by decide +kernel
theorem dX11_start_40 : decode cX11_start 40 = .ok (.putfield 230, 3) := by decide +kernel
theorem dX11_start_43 : decode cX11_start 43 = .ok (.aload_n 0, 1) := by decide +kernel
theorem dX11_start_44 : decode cX11_start 44 = .ok (.iconst 0, 1) := by decide +kernel
theorem dX11_start_45 : decode cX11_start 45 = .ok (.putfield 233, 3) := by decide +kernel
theorem dX11_start_48 : decode cX11_start 48 = .ok (.iconst 0, 1) := by decide +kernel
theorem dX11_start_49 : decode cX11_start 49 = .ok (.istore_n 1, 1) := by decide +kernel
theorem dX11_start_50 : decode cX11_start 50 = .ok (.iload_n 1, 1) := by decide +kernel
theorem dX11_start_51 : decode cX11_start 51 = .ok (.bipush 26, 2) := by decide +kernel
theorem dX11_start_53 : decode cX11_start 53 = .ok (.if_icmp .ge 16, 3) := by decide +kernel
theorem dX11_start_56 : decode cX11_start 56 = .ok (.aload_n 0, 1) := by decide +kernel
theorem dX11_start_57 : decode cX11_start 57 = .ok (.getfield 74, 3) := by decide +kernel
theorem dX11_start_60 : decode cX11_start 60 = .ok (.iload_n 1, 1) := by decide +kernel
theorem dX11_start_61 : decode cX11_start 61 = .ok (.iconst 0, 1) := by decide +kernel
theorem dX11_start_62 : decode cX11_start 62 = .ok (.iastore, 1) := by decide +kernel
theorem dX11_start_63 : decode cX11_start 63 = .ok (.iinc 1 1, 3) := by decide +kernel
theorem dX11_start_66 : decode cX11_start 66 = .ok (.goto (-16), 3) := by decide +kernel
theorem dX11_start_69 : decode cX11_start 69 = .ok (.iconst 0, 1) := by decide +kernel
theorem dX11_start_70 : decode cX11_start 70 = .ok (.istore_n 1, 1) := by decide +kernel
theorem dX11_start_71 : decode cX11_start 71 = .ok (.iload_n 1, 1) := by decide +kernel
theorem dX11_start_72 : decode cX11_start 72 = .ok (.bipush 100, 2) := by decide +kernel
theorem dX11_start_74 : decode cX11_start 74 = .ok (.if_icmp .ge 16, 3) := by decide +kernel
theorem dX11_start_77 : decode cX11_start 77 = .ok (.aload_n 0, 1) := by decide +kernel
theorem dX11_start_78 : decode cX11_start 78 = .ok (.getfield 77, 3) := by decide +kernel
theorem dX11_start_81 : decode cX11_start 81 = .ok (.iload_n 1, 1) := by decide +kernel
theorem dX11_start_82 : decode cX11_start 82 = .ok (.iconst 0, 1) := by decide +kernel
theorem dX11_start_83 : decode cX11_start 83 = .ok (.iastore, 1) := by decide +kernel
theorem dX11_start_84 : decode cX11_start 84 = .ok (.iinc 1 1, 3) := by decide +kernel
theorem dX11_start_87 : decode cX11_start 87 = .ok (.goto (-16), 3) := by decide +kernel
theorem dX11_start_90 : decode cX11_start 90 = .ok (.aload_n 0, 1) := by decide +kernel
theorem dX11_start_91 : decode cX11_start 91 = .ok (.invokevirtual 236, 3) := by decide +kernel
theorem dX11_start_94 : decode cX11_start 94 = .ok (.return_, 1) := by decide +kernel
set_option maxRecDepth 20000 in
set_option maxHeartbeats 4000000 in
theorem tb_X11_start_b71 {p : Program} {l : Launch} {e : Env} {s : State} {m : MethodId} {args : Array Value} {below : List Frame} {meth : Method} {c : Code} {G : GG} {Φ : S9 → Prop} {K71 : Int32 → S9 → Prop} (hE : Ev 27 G p s m args c cX11_start RX11) (hml : c.maxLocals = 2) (hr : meth.sig.returnType = none) (hlk : meth.locks = false) (hK71 : ∀ (a1 : Int32) (σ : S9) (H : Heap) (locs : List Loc) (ls : Array Slot), K71 a1 σ → Pic mwl 27 G σ s.heap H locs → lv_has ls 2 [(0, .ref (gAd G 0)), (1, .int a1)] → W p l e rm_X11_start s m args below meth c H locs 0 0 (QV mwl 27 G below args s Φ) (F0 m 71 ls [])) {a1 : Int32} {σ : S9} {H : Heap} {locs : List Loc} {ls : Array Slot} (hq : bd_X11_start_b71 K71 Φ a1 σ) (hw : Pic mwl 27 G σ s.heap H locs) (hl : lv_has ls 2 [(0, .ref (gAd G 0)), (1, .int a1)]) : W p l e rm_X11_start s m args below meth c H locs 0 0 (QV mwl 27 G below args s Φ) (F0 m 71 ls []) := by
  unfold bd_X11_start_b71 at hq
  refine lv_iload_n hE.1 hE.2.1 dX11_start_71 rfl (lv_at hl 1 rfl) ?_
  refine lv_bipush (v := (100 : Int32)) hE.1 hE.2.1 dX11_start_72 (by decide) ?_
  refine lv_icmp_ge (tgt := 90) hE.1 hE.2.1 dX11_start_74 (by decide) (fun c1 => ?_) (fun c1 => ?_)
  · have hq := hq.1 c1
    refine lv_aload_n hE.1 hE.2.1 dX11_start_90 rfl (lv_at hl 0 rfl) ?_
    refine clVv (rest := []) (As := []) hE hml hl.1 hw (c_X11_settle hE.2.2.2.2.2 l _ _ hq) mu125 mu126 mu127 mu128 mu3 rfl (k := 0) (by decide +kernel) (by decide) (ci := 11) rfl (q0 := 0) rfl rfl rfl (Nat.le_of_ble_eq_true rfl) dX11_start_91 (by decide) (fun σ1 hq H locs hw => ?_)
    exact rtV hE hr hlk hw hq dX11_start_94
  · have hq := hq.2 c1
    refine lv_aload_n hE.1 hE.2.1 dX11_start_77 rfl (lv_at hl 0 rfl) ?_
    refine mgf_X11_77 hE hw dX11_start_78 ?_
    refine lv_iload_n hE.1 hE.2.1 dX11_start_81 rfl (lv_at hl 1 rfl) ?_
    refine lv_iconst (v := (0 : Int32)) hE.1 hE.2.1 dX11_start_82 (by decide) ?_
    obtain ⟨hi2, hq⟩ := hq
    refine mas_23 hE hw hi2 dX11_start_83 (fun σ2 eσ2 H locs hw => ?_)
    have hq := hq σ2 eσ2
    obtain ⟨x3, ex3⟩ : ∃ y : Int32, y = a1 + 1 := ⟨_, rfl⟩
    have hq := hq x3 ex3
    refine lv_iinc (v := x3) (lv' := [(1, .int x3), (0, .ref (gAd G 0))]) hE.1 hE.2.1 dX11_start_84 hl (k := 1) rfl (by rw [ex3]; rfl) (by decide) rfl (fun ls hl => ?_)
    refine lv_goto (tgt := 71) hE.1 hE.2.1 dX11_start_87 (by decide) ?_
    exact hK71 _ _ _ _ _ hq hw (lv_sub hl [1, 0] rfl)
theorem tl_X11_start_b71 {p : Program} {l : Launch} {e : Env} {s : State} {m : MethodId} {args : Array Value} {below : List Frame} {meth : Method} {c : Code} {G : GG} {Φ : S9 → Prop}  (hE : Ev 27 G p s m args c cX11_start RX11) (hml : c.maxLocals = 2) (hr : meth.sig.returnType = none) (hlk : meth.locks = false)  : ∀ (n : Nat) (a1 : Int32) (σ : S9) (H : Heap) (locs : List Loc) (ls : Array Slot), lp_X11_start_b71  Φ n a1 σ → Pic mwl 27 G σ s.heap H locs → lv_has ls 2 [(0, .ref (gAd G 0)), (1, .int a1)] → W p l e rm_X11_start s m args below meth c H locs 0 0 (QV mwl 27 G below args s Φ) (F0 m 71 ls []) := by
  intro n
  induction n with
  | zero => intro _ _ _ _ _ hq; exact hq.elim
  | succ n ih => intro _ _ _ _ _ hq hw hl; exact tb_X11_start_b71 hE hml hr hlk  ih hq hw hl
set_option maxRecDepth 20000 in
set_option maxHeartbeats 4000000 in
theorem tb_X11_start_b50 {p : Program} {l : Launch} {e : Env} {s : State} {m : MethodId} {args : Array Value} {below : List Frame} {meth : Method} {c : Code} {G : GG} {Φ : S9 → Prop} {K50 : Int32 → S9 → Prop} (hE : Ev 27 G p s m args c cX11_start RX11) (hml : c.maxLocals = 2) (hr : meth.sig.returnType = none) (hlk : meth.locks = false) (hK50 : ∀ (a1 : Int32) (σ : S9) (H : Heap) (locs : List Loc) (ls : Array Slot), K50 a1 σ → Pic mwl 27 G σ s.heap H locs → lv_has ls 2 [(0, .ref (gAd G 0)), (1, .int a1)] → W p l e rm_X11_start s m args below meth c H locs 0 0 (QV mwl 27 G below args s Φ) (F0 m 50 ls [])) {a1 : Int32} {σ : S9} {H : Heap} {locs : List Loc} {ls : Array Slot} (hq : bd_X11_start_b50 K50 Φ a1 σ) (hw : Pic mwl 27 G σ s.heap H locs) (hl : lv_has ls 2 [(0, .ref (gAd G 0)), (1, .int a1)]) : W p l e rm_X11_start s m args below meth c H locs 0 0 (QV mwl 27 G below args s Φ) (F0 m 50 ls []) := by
  unfold bd_X11_start_b50 at hq
  refine lv_iload_n hE.1 hE.2.1 dX11_start_50 rfl (lv_at hl 1 rfl) ?_
  refine lv_bipush (v := (26 : Int32)) hE.1 hE.2.1 dX11_start_51 (by decide) ?_
  refine lv_icmp_ge (tgt := 69) hE.1 hE.2.1 dX11_start_53 (by decide) (fun c1 => ?_) (fun c1 => ?_)
  · have hq := hq.1 c1
    refine lv_iconst (v := (0 : Int32)) hE.1 hE.2.1 dX11_start_69 (by decide) ?_
    refine lv_topi (fun x2 ex2 => ?_)
    have hq := hq x2 ex2
    refine lv_istore_n (lv' := [(1, .int x2), (0, .ref (gAd G 0))]) hE.1 hE.2.1 dX11_start_70 rfl hl (by decide) rfl (fun ls hl => ?_)
    obtain ⟨nn, hq⟩ := hq
    exact tl_X11_start_b71 hE hml hr hlk  nn _ _ _ _ _ hq hw (lv_sub hl [1, 0] rfl)
  · have hq := hq.2 c1
    refine lv_aload_n hE.1 hE.2.1 dX11_start_56 rfl (lv_at hl 0 rfl) ?_
    refine mgf_X11_74 hE hw dX11_start_57 ?_
    refine lv_iload_n hE.1 hE.2.1 dX11_start_60 rfl (lv_at hl 1 rfl) ?_
    refine lv_iconst (v := (0 : Int32)) hE.1 hE.2.1 dX11_start_61 (by decide) ?_
    obtain ⟨hi3, hq⟩ := hq
    refine mas_22 hE hw hi3 dX11_start_62 (fun σ1 eσ1 H locs hw => ?_)
    have hq := hq σ1 eσ1
    obtain ⟨x4, ex4⟩ : ∃ y : Int32, y = a1 + 1 := ⟨_, rfl⟩
    have hq := hq x4 ex4
    refine lv_iinc (v := x4) (lv' := [(1, .int x4), (0, .ref (gAd G 0))]) hE.1 hE.2.1 dX11_start_63 hl (k := 1) rfl (by rw [ex4]; rfl) (by decide) rfl (fun ls hl => ?_)
    refine lv_goto (tgt := 50) hE.1 hE.2.1 dX11_start_66 (by decide) ?_
    exact hK50 _ _ _ _ _ hq hw (lv_sub hl [1, 0] rfl)
theorem tl_X11_start_b50 {p : Program} {l : Launch} {e : Env} {s : State} {m : MethodId} {args : Array Value} {below : List Frame} {meth : Method} {c : Code} {G : GG} {Φ : S9 → Prop}  (hE : Ev 27 G p s m args c cX11_start RX11) (hml : c.maxLocals = 2) (hr : meth.sig.returnType = none) (hlk : meth.locks = false)  : ∀ (n : Nat) (a1 : Int32) (σ : S9) (H : Heap) (locs : List Loc) (ls : Array Slot), lp_X11_start_b50  Φ n a1 σ → Pic mwl 27 G σ s.heap H locs → lv_has ls 2 [(0, .ref (gAd G 0)), (1, .int a1)] → W p l e rm_X11_start s m args below meth c H locs 0 0 (QV mwl 27 G below args s Φ) (F0 m 50 ls []) := by
  intro n
  induction n with
  | zero => intro _ _ _ _ _ hq; exact hq.elim
  | succ n ih => intro _ _ _ _ _ hq hw hl; exact tb_X11_start_b50 hE hml hr hlk  ih hq hw hl
set_option maxRecDepth 20000 in
set_option maxHeartbeats 4000000 in
theorem c_X11_start {G : GG} (hJ : gJ 27 G) (l : Launch)  (σ : S9) (Φ : S9 → Prop) (hq : wp_X11_start  σ Φ) : CV mwl 27 G l yX11_start cX11_start 2 rm_X11_start [.ref (gAd G 0)] σ Φ := by
  refine CV.intro (by decide) (Nat.le_of_ble_eq_true rfl) hJ ?_
  intro p e s m args below meth c ls hE hml hr hlk hw hl
  have hl : lv_has ls 2 [(0, .ref (gAd G 0))] := hl
  unfold wp_X11_start at hq
  refine lv_aload_n hE.1 hE.2.1 dX11_start_0 rfl (lv_at hl 0 rfl) ?_
  refine lv_aload_n hE.1 hE.2.1 dX11_start_1 rfl (lv_at hl 0 rfl) ?_
  refine mgf_X11_212 hE hw dX11_start_2 ?_
  refine lv_iconst (v := (1 : Int32)) hE.1 hE.2.1 dX11_start_5 (by decide) ?_
  refine clVi (rest := []) (As := [.int (σ.1 10), .int (1 : Int32)]) hE hml hl.1 hw (c_X11_goes hE.2.2.2.2.2 l _ _ _ _ hq) mu6 mu7 mu8 mu9 mu3 rfl (k := 2) (by decide +kernel) (by decide) (ci := 11) rfl (q0 := 0) rfl rfl rfl (Nat.le_of_ble_eq_true rfl) dX11_start_6 (by decide) (fun r1 σ1 hq H locs hw => ?_)
  refine lv_if_ne (tgt := 13) hE.1 hE.2.1 dX11_start_9 (by decide) (fun c2 => ?_) (fun c2 => ?_)
  · have hq := hq.2 c2
    refine lv_aload_n hE.1 hE.2.1 dX11_start_13 rfl (lv_at hl 0 rfl) ?_
    refine lv_iconst (v := (1 : Int32)) hE.1 hE.2.1 dX11_start_14 (by decide) ?_
    refine mpf_X11_202 hE hw rfl (by decide) dX11_start_15 (fun σ2 eσ2 H locs hw => ?_)
    have hq := hq σ2 eσ2
    refine lv_aload_n hE.1 hE.2.1 dX11_start_18 rfl (lv_at hl 0 rfl) ?_
    refine lv_iconst (v := (0 : Int32)) hE.1 hE.2.1 dX11_start_19 (by decide) ?_
    refine mpf_X11_218 hE hw dX11_start_20 (fun σ3 eσ3 H locs hw => ?_)
    have hq := hq σ3 eσ3
    refine lv_aload_n hE.1 hE.2.1 dX11_start_23 rfl (lv_at hl 0 rfl) ?_
    refine lv_iconst (v := (0 : Int32)) hE.1 hE.2.1 dX11_start_24 (by decide) ?_
    refine mpf_X11_224 hE hw dX11_start_25 (fun σ4 eσ4 H locs hw => ?_)
    have hq := hq σ4 eσ4
    refine lv_aload_n hE.1 hE.2.1 dX11_start_28 rfl (lv_at hl 0 rfl) ?_
    refine lv_iconst (v := (0 : Int32)) hE.1 hE.2.1 dX11_start_29 (by decide) ?_
    refine mpf_X11_227 hE hw dX11_start_30 (fun σ5 eσ5 H locs hw => ?_)
    have hq := hq σ5 eσ5
    refine lv_aload_n hE.1 hE.2.1 dX11_start_33 rfl (lv_at hl 0 rfl) ?_
    refine lv_iconst (v := (0 : Int32)) hE.1 hE.2.1 dX11_start_34 (by decide) ?_
    refine mpf_X11_221 hE hw dX11_start_35 (fun σ6 eσ6 H locs hw => ?_)
    have hq := hq σ6 eσ6
    refine lv_aload_n hE.1 hE.2.1 dX11_start_38 rfl (lv_at hl 0 rfl) ?_
    refine lv_iconst (v := (0 : Int32)) hE.1 hE.2.1 dX11_start_39 (by decide) ?_
    refine mpf_X11_230 hE hw dX11_start_40 (fun σ7 eσ7 H locs hw => ?_)
    have hq := hq σ7 eσ7
    refine lv_aload_n hE.1 hE.2.1 dX11_start_43 rfl (lv_at hl 0 rfl) ?_
    refine lv_iconst (v := (0 : Int32)) hE.1 hE.2.1 dX11_start_44 (by decide) ?_
    refine mpf_X11_233 hE hw dX11_start_45 (fun σ8 eσ8 H locs hw => ?_)
    have hq := hq σ8 eσ8
    refine lv_iconst (v := (0 : Int32)) hE.1 hE.2.1 dX11_start_48 (by decide) ?_
    refine lv_topi (fun x3 ex3 => ?_)
    have hq := hq x3 ex3
    refine lv_istore_n (lv' := [(1, .int x3), (0, .ref (gAd G 0))]) hE.1 hE.2.1 dX11_start_49 rfl hl (by decide) rfl (fun ls hl => ?_)
    obtain ⟨nn, hq⟩ := hq
    exact tl_X11_start_b50 hE hml hr hlk  nn _ _ _ _ _ hq hw (lv_sub hl [1, 0] rfl)
  · have hq := hq.1 c2
    exact rtV hE hr hlk hw hq dX11_start_12
/-! QueueBenchModel.isCell(I)Z -/
abbrev rm_X11_isCell : Room := { frames := 0, cells := 0, slots := 0, locals := 0 }
def wp_X11_isCell (a0 : Int32) (σ : S9) (Φ : Int32 → S9 → Prop) : Prop := (a0 < 0 → Φ (0 : Int32) σ) ∧ (¬ a0 < 0 → ((100 : Int32) ≤ a0 → Φ (0 : Int32) σ) ∧ (¬ (100 : Int32) ≤ a0 → Φ (1 : Int32) σ))
theorem dX11_isCell_0 : decode cX11_isCell 0 = .ok (.iload_n 0, 1) := by decide +kernel
theorem dX11_isCell_1 : decode cX11_isCell 1 = .ok (.ifCond .lt 13, 3) := by decide +kernel
theorem dX11_isCell_4 : decode cX11_isCell 4 = .ok (.iload_n 0, 1) := by decide +kernel
theorem dX11_isCell_5 : decode cX11_isCell 5 = .ok (.bipush 100, 2) := by decide +kernel
theorem dX11_isCell_7 : decode cX11_isCell 7 = .ok (.if_icmp .ge 7, 3) := by decide +kernel
theorem dX11_isCell_10 : decode cX11_isCell 10 = .ok (.iconst 1, 1) := by decide +kernel
theorem dX11_isCell_11 : decode cX11_isCell 11 = .ok (.goto 4, 3) := by decide +kernel
theorem dX11_isCell_14 : decode cX11_isCell 14 = .ok (.iconst 0, 1) := by decide +kernel
theorem dX11_isCell_15 : decode cX11_isCell 15 = .ok (.ireturn, 1) := by decide +kernel
set_option maxRecDepth 20000 in
set_option maxHeartbeats 4000000 in
theorem c_X11_isCell {G : GG} (hJ : gJ 27 G) (l : Launch) (a0 : Int32) (σ : S9) (Φ : Int32 → S9 → Prop) (hq : wp_X11_isCell a0 σ Φ) : CI mwl 27 G l yX11_isCell cX11_isCell 1 (some .boolean) rm_X11_isCell [.int a0] σ Φ := by
  refine CI.intro (by decide) (Nat.le_of_ble_eq_true rfl) hJ ?_
  intro p e s m args below meth c ls hE hml hr hlk hw hl
  have hl : lv_has ls 1 [(0, .int a0)] := hl
  unfold wp_X11_isCell at hq
  refine lv_iload_n hE.1 hE.2.1 dX11_isCell_0 rfl (lv_at hl 0 rfl) ?_
  refine lv_if_lt (tgt := 14) hE.1 hE.2.1 dX11_isCell_1 (by decide) (fun c1 => ?_) (fun c1 => ?_)
  · have hq := hq.1 c1
    refine lv_iconst (v := (0 : Int32)) hE.1 hE.2.1 dX11_isCell_14 (by decide) ?_
    exact rtZ hE hr hlk rfl hw hq dX11_isCell_15
  · have hq := hq.2 c1
    refine lv_iload_n hE.1 hE.2.1 dX11_isCell_4 rfl (lv_at hl 0 rfl) ?_
    refine lv_bipush (v := (100 : Int32)) hE.1 hE.2.1 dX11_isCell_5 (by decide) ?_
    refine lv_icmp_ge (tgt := 14) hE.1 hE.2.1 dX11_isCell_7 (by decide) (fun c2 => ?_) (fun c2 => ?_)
    · have hq := hq.1 c2
      refine lv_iconst (v := (0 : Int32)) hE.1 hE.2.1 dX11_isCell_14 (by decide) ?_
      exact rtZ hE hr hlk rfl hw hq dX11_isCell_15
    · have hq := hq.2 c2
      refine lv_iconst (v := (1 : Int32)) hE.1 hE.2.1 dX11_isCell_10 (by decide) ?_
      refine lv_goto (tgt := 15) hE.1 hE.2.1 dX11_isCell_11 (by decide) ?_
      exact rtZ hE hr hlk rfl hw hq dX11_isCell_15
/-! QueueBenchModel.joinedValue(III)I -/
abbrev rm_X11_joinedValue : Room := { frames := 0, cells := 0, slots := 0, locals := 0 }
def wp_X11_joinedValue (a0 : Int32) (a1 : Int32) (a2 : Int32) (σ : S9) (Φ : Int32 → S9 → Prop) : Prop := (a0 = (37 : Int32) → ¬ a2 = 0 ∧ Φ (a1 - a1 / a2 * a2) σ) ∧ (¬ a0 = (37 : Int32) → (a0 = (42 : Int32) → Φ (a1 * a2) σ) ∧ (¬ a0 = (42 : Int32) → (a0 = (43 : Int32) → Φ (a1 + a2) σ) ∧ (¬ a0 = (43 : Int32) → (a0 = (45 : Int32) → Φ (a1 - a2) σ) ∧ (¬ a0 = (45 : Int32) → (a0 = (47 : Int32) → ¬ a2 = 0 ∧ Φ (a1 / a2) σ) ∧ (¬ a0 = (47 : Int32) → (a0 = (60 : Int32) → (a2 ≤ a1 → Φ (0 : Int32) σ) ∧ (¬ a2 ≤ a1 → Φ (1 : Int32) σ)) ∧ (¬ a0 = (60 : Int32) → (a1 = a2 → Φ (1 : Int32) σ) ∧ (¬ a1 = a2 → Φ (0 : Int32) σ)))))))
theorem dX11_joinedValue_0 : decode cX11_joinedValue 0 = .ok (.iload_n 0, 1) := by decide +kernel
theorem dX11_joinedValue_1 : decode cX11_joinedValue 1 = .ok (.lookupswitch 90 #[(37, 75), (42, 67), (43, 59), (45, 63), (47, 71), (60, 79)], 59) := by decide +kernel
theorem dX11_joinedValue_60 : decode cX11_joinedValue 60 = .ok (.iload_n 1, 1) := by decide +kernel
theorem dX11_joinedValue_61 : decode cX11_joinedValue 61 = .ok (.iload_n 2, 1) := by decide +kernel
theorem dX11_joinedValue_62 : decode cX11_joinedValue 62 = .ok (.iadd, 1) := by decide +kernel
theorem dX11_joinedValue_63 : decode cX11_joinedValue 63 = .ok (.ireturn, 1) := by decide +kernel
theorem dX11_joinedValue_64 : decode cX11_joinedValue 64 = .ok (.iload_n 1, 1) := by decide +kernel
theorem dX11_joinedValue_65 : decode cX11_joinedValue 65 = .ok (.iload_n 2, 1) := by decide +kernel
theorem dX11_joinedValue_66 : decode cX11_joinedValue 66 = .ok (.isub, 1) := by decide +kernel
theorem dX11_joinedValue_67 : decode cX11_joinedValue 67 = .ok (.ireturn, 1) := by decide +kernel
theorem dX11_joinedValue_68 : decode cX11_joinedValue 68 = .ok (.iload_n 1, 1) := by decide +kernel
theorem dX11_joinedValue_69 : decode cX11_joinedValue 69 = .ok (.iload_n 2, 1) := by decide +kernel
theorem dX11_joinedValue_70 : decode cX11_joinedValue 70 = .ok (.imul, 1) := by decide +kernel
theorem dX11_joinedValue_71 : decode cX11_joinedValue 71 = .ok (.ireturn, 1) := by decide +kernel
theorem dX11_joinedValue_72 : decode cX11_joinedValue 72 = .ok (.iload_n 1, 1) := by decide +kernel
theorem dX11_joinedValue_73 : decode cX11_joinedValue 73 = .ok (.iload_n 2, 1) := by decide +kernel
theorem dX11_joinedValue_74 : decode cX11_joinedValue 74 = .ok (.idiv, 1) := by decide +kernel
theorem dX11_joinedValue_75 : decode cX11_joinedValue 75 = .ok (.ireturn, 1) := by decide +kernel
theorem dX11_joinedValue_76 : decode cX11_joinedValue 76 = .ok (.iload_n 1, 1) := by decide +kernel
theorem dX11_joinedValue_77 : decode cX11_joinedValue 77 = .ok (.iload_n 2, 1) := by decide +kernel
theorem dX11_joinedValue_78 : decode cX11_joinedValue 78 = .ok (.irem, 1) := by decide +kernel
theorem dX11_joinedValue_79 : decode cX11_joinedValue 79 = .ok (.ireturn, 1) := by decide +kernel
theorem dX11_joinedValue_80 : decode cX11_joinedValue 80 = .ok (.iload_n 1, 1) := by decide +kernel
theorem dX11_joinedValue_81 : decode cX11_joinedValue 81 = .ok (.iload_n 2, 1) := by decide +kernel
theorem dX11_joinedValue_82 : decode cX11_joinedValue 82 = .ok (.if_icmp .ge 7, 3) := by decide +kernel
theorem dX11_joinedValue_85 : decode cX11_joinedValue 85 = .ok (.iconst 1, 1) := by decide +kernel
theorem dX11_joinedValue_86 : decode cX11_joinedValue 86 = .ok (.goto 4, 3) := by decide +kernel
theorem dX11_joinedValue_89 : decode cX11_joinedValue 89 = .ok (.iconst 0, 1) := by decide +kernel
theorem dX11_joinedValue_90 : decode cX11_joinedValue 90 = .ok (.ireturn, 1) := by decide +kernel
theorem dX11_joinedValue_91 : decode cX11_joinedValue 91 = .ok (.iload_n 1, 1) := by decide +kernel
theorem dX11_joinedValue_92 : decode cX11_joinedValue 92 = .ok (.iload_n 2, 1) := by decide +kernel
theorem dX11_joinedValue_93 : decode cX11_joinedValue 93 = .ok (.if_icmp .ne 7, 3) := by decide +kernel
theorem dX11_joinedValue_96 : decode cX11_joinedValue 96 = .ok (.iconst 1, 1) := by decide +kernel
theorem dX11_joinedValue_97 : decode cX11_joinedValue 97 = .ok (.goto 4, 3) := by decide +kernel
theorem dX11_joinedValue_100 : decode cX11_joinedValue 100 = .ok (.iconst 0, 1) := by decide +kernel
theorem dX11_joinedValue_101 : decode cX11_joinedValue 101 = .ok (.ireturn, 1) := by decide +kernel
set_option maxRecDepth 20000 in
set_option maxHeartbeats 4000000 in
theorem c_X11_joinedValue {G : GG} (hJ : gJ 27 G) (l : Launch) (a0 : Int32) (a1 : Int32) (a2 : Int32) (σ : S9) (Φ : Int32 → S9 → Prop) (hq : wp_X11_joinedValue a0 a1 a2 σ Φ) : CI mwl 27 G l yX11_joinedValue cX11_joinedValue 3 (some .int) rm_X11_joinedValue [.int a0, .int a1, .int a2] σ Φ := by
  refine CI.intro (by decide) (Nat.le_of_ble_eq_true rfl) hJ ?_
  intro p e s m args below meth c ls hE hml hr hlk hw hl
  have hl : lv_has ls 3 [(0, .int a0), (1, .int a1), (2, .int a2)] := hl
  unfold wp_X11_joinedValue at hq
  refine lv_iload_n hE.1 hE.2.1 dX11_joinedValue_0 rfl (lv_at hl 0 rfl) ?_
  by_cases c1 : a0 = (37 : Int32)
  · have hq := hq.1 c1
    refine lv_lookup (off := 75) (tgt := 76) hE.1 hE.2.1 dX11_joinedValue_1 (by decide) (osw_hit c1 rfl) (by decide) ?_
    refine lv_iload_n hE.1 hE.2.1 dX11_joinedValue_76 rfl (lv_at hl 1 rfl) ?_
    refine lv_iload_n hE.1 hE.2.1 dX11_joinedValue_77 rfl (lv_at hl 2 rfl) ?_
    obtain ⟨hne2, hq⟩ := hq
    refine lv_irem hE.1 hE.2.1 dX11_joinedValue_78 hne2 ?_
    exact rtI hE hr hlk hw hq dX11_joinedValue_79
  · have hq := hq.2 c1
    by_cases c3 : a0 = (42 : Int32)
    · have hq := hq.1 c3
      refine lv_lookup (off := 67) (tgt := 68) hE.1 hE.2.1 dX11_joinedValue_1 (by decide) ((lv_osw c1 rfl).trans (osw_hit c3 rfl)) (by decide) ?_
      refine lv_iload_n hE.1 hE.2.1 dX11_joinedValue_68 rfl (lv_at hl 1 rfl) ?_
      refine lv_iload_n hE.1 hE.2.1 dX11_joinedValue_69 rfl (lv_at hl 2 rfl) ?_
      refine lv_imul hE.1 hE.2.1 dX11_joinedValue_70 ?_
      exact rtI hE hr hlk hw hq dX11_joinedValue_71
    · have hq := hq.2 c3
      by_cases c4 : a0 = (43 : Int32)
      · have hq := hq.1 c4
        refine lv_lookup (off := 59) (tgt := 60) hE.1 hE.2.1 dX11_joinedValue_1 (by decide) ((lv_osw c1 rfl).trans ((lv_osw c3 rfl).trans (osw_hit c4 rfl))) (by decide) ?_
        refine lv_iload_n hE.1 hE.2.1 dX11_joinedValue_60 rfl (lv_at hl 1 rfl) ?_
        refine lv_iload_n hE.1 hE.2.1 dX11_joinedValue_61 rfl (lv_at hl 2 rfl) ?_
        refine lv_iadd hE.1 hE.2.1 dX11_joinedValue_62 ?_
        exact rtI hE hr hlk hw hq dX11_joinedValue_63
      · have hq := hq.2 c4
        by_cases c5 : a0 = (45 : Int32)
        · have hq := hq.1 c5
          refine lv_lookup (off := 63) (tgt := 64) hE.1 hE.2.1 dX11_joinedValue_1 (by decide) ((lv_osw c1 rfl).trans ((lv_osw c3 rfl).trans ((lv_osw c4 rfl).trans (osw_hit c5 rfl)))) (by decide) ?_
          refine lv_iload_n hE.1 hE.2.1 dX11_joinedValue_64 rfl (lv_at hl 1 rfl) ?_
          refine lv_iload_n hE.1 hE.2.1 dX11_joinedValue_65 rfl (lv_at hl 2 rfl) ?_
          refine lv_isub hE.1 hE.2.1 dX11_joinedValue_66 ?_
          exact rtI hE hr hlk hw hq dX11_joinedValue_67
        · have hq := hq.2 c5
          by_cases c6 : a0 = (47 : Int32)
          · have hq := hq.1 c6
            refine lv_lookup (off := 71) (tgt := 72) hE.1 hE.2.1 dX11_joinedValue_1 (by decide) ((lv_osw c1 rfl).trans ((lv_osw c3 rfl).trans ((lv_osw c4 rfl).trans ((lv_osw c5 rfl).trans (osw_hit c6 rfl))))) (by decide) ?_
            refine lv_iload_n hE.1 hE.2.1 dX11_joinedValue_72 rfl (lv_at hl 1 rfl) ?_
            refine lv_iload_n hE.1 hE.2.1 dX11_joinedValue_73 rfl (lv_at hl 2 rfl) ?_
            obtain ⟨hne7, hq⟩ := hq
            refine lv_idiv hE.1 hE.2.1 dX11_joinedValue_74 hne7 ?_
            exact rtI hE hr hlk hw hq dX11_joinedValue_75
          · have hq := hq.2 c6
            by_cases c8 : a0 = (60 : Int32)
            · have hq := hq.1 c8
              refine lv_lookup (off := 79) (tgt := 80) hE.1 hE.2.1 dX11_joinedValue_1 (by decide) ((lv_osw c1 rfl).trans ((lv_osw c3 rfl).trans ((lv_osw c4 rfl).trans ((lv_osw c5 rfl).trans ((lv_osw c6 rfl).trans (osw_hit c8 rfl)))))) (by decide) ?_
              refine lv_iload_n hE.1 hE.2.1 dX11_joinedValue_80 rfl (lv_at hl 1 rfl) ?_
              refine lv_iload_n hE.1 hE.2.1 dX11_joinedValue_81 rfl (lv_at hl 2 rfl) ?_
              refine lv_icmp_ge (tgt := 89) hE.1 hE.2.1 dX11_joinedValue_82 (by decide) (fun c9 => ?_) (fun c9 => ?_)
              · have hq := hq.1 c9
                refine lv_iconst (v := (0 : Int32)) hE.1 hE.2.1 dX11_joinedValue_89 (by decide) ?_
                exact rtI hE hr hlk hw hq dX11_joinedValue_90
              · have hq := hq.2 c9
                refine lv_iconst (v := (1 : Int32)) hE.1 hE.2.1 dX11_joinedValue_85 (by decide) ?_
                refine lv_goto (tgt := 90) hE.1 hE.2.1 dX11_joinedValue_86 (by decide) ?_
                exact rtI hE hr hlk hw hq dX11_joinedValue_90
            · have hq := hq.2 c8
              refine lv_lookup (off := 90) (tgt := 91) hE.1 hE.2.1 dX11_joinedValue_1 (by decide) ((lv_osw c1 rfl).trans ((lv_osw c3 rfl).trans ((lv_osw c4 rfl).trans ((lv_osw c5 rfl).trans ((lv_osw c6 rfl).trans ((lv_osw c8 rfl).trans rfl)))))) (by decide) ?_
              refine lv_iload_n hE.1 hE.2.1 dX11_joinedValue_91 rfl (lv_at hl 1 rfl) ?_
              refine lv_iload_n hE.1 hE.2.1 dX11_joinedValue_92 rfl (lv_at hl 2 rfl) ?_
              refine lv_icmp_ne (tgt := 100) hE.1 hE.2.1 dX11_joinedValue_93 (by decide) (fun c10 => ?_) (fun c10 => ?_)
              · have hq := hq.2 c10
                refine lv_iconst (v := (0 : Int32)) hE.1 hE.2.1 dX11_joinedValue_100 (by decide) ?_
                exact rtI hE hr hlk hw hq dX11_joinedValue_101
              · have hq := hq.1 c10
                refine lv_iconst (v := (1 : Int32)) hE.1 hE.2.1 dX11_joinedValue_96 (by decide) ?_
                refine lv_goto (tgt := 101) hE.1 hE.2.1 dX11_joinedValue_97 (by decide) ?_
                exact rtI hE hr hlk hw hq dX11_joinedValue_101
/-! QueueBenchModel.work(II)I -/
abbrev rm_X11_work : Room := { frames := 1, cells := 0, slots := 0, locals := 22 }
def wp_X11_work_b223  (Φ : Int32 → S9 → Prop) (a1 : Int32) (σ : S9) : Prop := vp_in ((σ.1 25) - (1 : Int32)) 400 ∧ vp_in (σ.1 25) 400 ∧ wp_X11_joinedValue a1 (σ.2.1 25 (((σ.1 25) - (1 : Int32))).toNatClampNeg) (σ.2.1 25 ((σ.1 25)).toNatClampNeg) σ (fun r3 σ1 => vp_in ((σ.1 25) - (1 : Int32)) 400 ∧ ∀ σ2 : S9, σ2 = sA σ1 25 (upd (σ1.2.1 25) (((σ.1 25) - (1 : Int32))).toNatClampNeg r3) → Φ (0 : Int32) σ2)
def wp_X11_work_b209  (Φ : Int32 → S9 → Prop) (a1 : Int32) (σ : S9) : Prop := vp_in (σ.1 25) 400 ∧ ((σ.2.1 25 ((σ.1 25)).toNatClampNeg) = 0 → Φ (2 : Int32) σ) ∧ (¬ (σ.2.1 25 ((σ.1 25)).toNatClampNeg) = 0 → wp_X11_work_b223  Φ a1 σ)
def wp_X11_work_b87  (Φ : Int32 → S9 → Prop) (t0 : Int32) (t1 : Int32) (σ : S9) : Prop := vp_in t1 400 ∧ ∀ σ1 : S9, σ1 = sA σ 25 (upd (σ.2.1 25) (t1).toNatClampNeg t0) → ∀ σ2 : S9, σ2 = sF σ1 25 ((σ1.1 25) + (1 : Int32)) → Φ (0 : Int32) σ2
def wp_X11_work (a1 : Int32) (a2 : Int32) (σ : S9) (Φ : Int32 → S9 → Prop) : Prop := (a1 = (35 : Int32) → ((σ.1 24) = (σ.1 22) → Φ (4 : Int32) σ) ∧ (¬ (σ.1 24) = (σ.1 22) → vp_in (σ.1 24) 300 ∧ vp_in (σ.1 25) 400 ∧ ∀ σ5 : S9, σ5 = sA σ 25 (upd (σ.2.1 25) ((σ.1 25)).toNatClampNeg (σ.2.1 24 ((σ.1 24)).toNatClampNeg)) → ∀ σ6 : S9, σ6 = sF σ5 24 ((σ5.1 24) + (1 : Int32)) → ∀ σ7 : S9, σ7 = sF σ6 25 ((σ6.1 25) + (1 : Int32)) → Φ (0 : Int32) σ7)) ∧ (¬ a1 = (35 : Int32) → ((2 : Int32) ≤ a1 → (a1 = (2 : Int32) → vp_in ((σ.1 25) - (1 : Int32)) 400 ∧ vp_in ((σ.1 25) - (1 : Int32)) 400 ∧ ∀ σ4 : S9, σ4 = sA σ 25 (upd (σ.2.1 25) (((σ.1 25) - (1 : Int32))).toNatClampNeg ((0 : Int32) - (σ.2.1 25 (((σ.1 25) - (1 : Int32))).toNatClampNeg))) → Φ (0 : Int32) σ4) ∧ (¬ a1 = (2 : Int32) → (a1 = (3 : Int32) → vp_in ((σ.1 25) - (1 : Int32)) 400 ∧ wp_X11_isCell (σ.2.1 25 (((σ.1 25) - (1 : Int32))).toNatClampNeg) σ (fun r8 σ2 => (r8 = 0 → Φ (3 : Int32) σ2) ∧ (¬ r8 = 0 → vp_in ((σ2.1 25) - (1 : Int32)) 400 ∧ vp_in (σ2.2.1 25 (((σ2.1 25) - (1 : Int32))).toNatClampNeg) 100 ∧ vp_in ((σ2.1 25) - (1 : Int32)) 400 ∧ ∀ σ3 : S9, σ3 = sA σ2 25 (upd (σ2.2.1 25) (((σ2.1 25) - (1 : Int32))).toNatClampNeg (σ2.2.1 22 ((σ2.2.1 25 (((σ2.1 25) - (1 : Int32))).toNatClampNeg)).toNatClampNeg)) → Φ (0 : Int32) σ3))) ∧ (¬ a1 = (3 : Int32) → ∀ σ1 : S9, σ1 = sF σ 25 ((σ.1 25) - (1 : Int32)) → (a1 = (47 : Int32) → wp_X11_work_b209  Φ a1 σ1) ∧ (¬ a1 = (47 : Int32) → (a1 = (37 : Int32) → wp_X11_work_b209  Φ a1 σ1) ∧ (¬ a1 = (37 : Int32) → wp_X11_work_b223  Φ a1 σ1))))) ∧ (¬ (2 : Int32) ≤ a1 → (a1 = 0 → wp_X11_work_b87  Φ a2 (σ.1 25) σ) ∧ (¬ a1 = 0 → vp_in a2 26 ∧ wp_X11_work_b87  Φ (σ.2.1 21 (a2).toNatClampNeg) (σ.1 25) σ)))
theorem dX11_work_0 : decode cX11_work 0 = .ok (.iload_n 1, 1) := by decide +kernel
theorem dX11_work_1 : decode cX11_work 1 = .ok (.bipush 35, 2) := by decide +kernel
theorem dX11_work_3 : decode cX11_work 3 = .ok (.if_icmp .ne 57, 3) := by decide +kernel
theorem dX11_work_6 : decode cX11_work 6 = .ok (.aload_n 0, 1) := by decide +kernel
theorem dX11_work_7 : decode cX11_work 7 = .ok (.getfield 239, 3) := by decide +kernel
theorem dX11_work_10 : decode cX11_work 10 = .ok (.aload_n 0, 1) := by decide +kernel
theorem dX11_work_11 : decode cX11_work 11 = .ok (.getfield 215, 3) := by decide +kernel
theorem dX11_work_14 : decode cX11_work 14 = .ok (.if_icmp .ne 5, 3) := by decide +kernel
theorem dX11_work_17 : decode cX11_work 17 = .ok (.iconst 4, 1) := by decide +kernel
theorem dX11_work_18 : decode cX11_work 18 = .ok (.ireturn, 1) := by decide +kernel
theorem dX11_work_19 : decode cX11_work 19 = .ok (.aload_n 0, 1) := by decide +kernel
theorem dX11_work_20 : decode cX11_work 20 = .ok (.getfield 86, 3) := by decide +kernel
theorem dX11_work_23 : decode cX11_work 23 = .ok (.aload_n 0, 1) := by decide +kernel
theorem dX11_work_24 : decode cX11_work 24 = .ok (.getfield 242, 3) := by decide +kernel
theorem dX11_work_27 : decode cX11_work 27 = .ok (.aload_n 0, 1) := by decide +kernel
theorem dX11_work_28 : decode cX11_work 28 = .ok (.getfield 83, 3) := by decide +kernel
theorem dX11_work_31 : decode cX11_work 31 = .ok (.aload_n 0, 1) := by decide +kernel
theorem dX11_work_32 : decode cX11_work 32 = .ok (.getfield 239, 3) := by decide +kernel
theorem dX11_work_35 : decode cX11_work 35 = .ok (.iaload, 1) := by decide +kernel
theorem dX11_work_36 : decode cX11_work 36 = .ok (.iastore, 1) := by decide +kernel
theorem dX11_work_37 : decode cX11_work 37 = .ok (.aload_n 0, 1) := by decide +kernel
theorem dX11_work_38 : decode cX11_work 38 = .ok (.dup, 1) := by decide +kernel
theorem dX11_work_39 : decode cX11_work 39 = .ok (.getfield 239, 3) := by decide +kernel
theorem dX11_work_42 : decode cX11_work 42 = .ok (.iconst 1, 1) := by decide +kernel
theorem dX11_work_43 : decode cX11_work 43 = .ok (.iadd, 1) := by decide +kernel
theorem dX11_work_44 : decode cX11_work 44 = .ok (.putfield 239, 3) := by decide +kernel
theorem dX11_work_47 : decode cX11_work 47 = .ok (.aload_n 0, 1) := by decide +kernel
theorem dX11_work_48 : decode cX11_work 48 = .ok (.dup, 1) := by decide +kernel
theorem dX11_work_49 : decode cX11_work 49 = .ok (.getfield 242, 3) := by decide +kernel
theorem dX11_work_52 : decode cX11_work 52 = .ok (.iconst 1, 1) := by decide +kernel
theorem dX11_work_53 : decode cX11_work 53 = .ok (.iadd, 1) := by decide +kernel
theorem dX11_work_54 : decode cX11_work 54 = .ok (.putfield 242, 3) := by decide +kernel
theorem dX11_work_57 : decode cX11_work 57 = .ok (.goto 201, 3) := by decide +kernel
theorem dX11_work_60 : decode cX11_work 60 = .ok (.iload_n 1, 1) := by decide +kernel
theorem dX11_work_61 : decode cX11_work 61 = .ok (.iconst 2, 1) := by decide +kernel
theorem dX11_work_62 : decode cX11_work 62 = .ok (.if_icmp .ge 39, 3) := by decide +kernel
theorem dX11_work_65 : decode cX11_work 65 = .ok (.aload_n 0, 1) := by decide +kernel
theorem dX11_work_66 : decode cX11_work 66 = .ok (.getfield 86, 3) := by decide +kernel
theorem dX11_work_69 : decode cX11_work 69 = .ok (.aload_n 0, 1) := by decide +kernel
theorem dX11_work_70 : decode cX11_work 70 = .ok (.getfield 242, 3) := by decide +kernel
theorem dX11_work_73 : decode cX11_work 73 = .ok (.iload_n 1, 1) := by decide +kernel
theorem dX11_work_74 : decode cX11_work 74 = .ok (.ifCond .ne 7, 3) := by decide +kernel
theorem dX11_work_77 : decode cX11_work 77 = .ok (.iload_n 2, 1) := by decide +kernel
theorem dX11_work_78 : decode cX11_work 78 = .ok (.goto 9, 3) := by decide +kernel
theorem dX11_work_81 : decode cX11_work 81 = .ok (.aload_n 0, 1) := by decide +kernel
theorem dX11_work_82 : decode cX11_work 82 = .ok (.getfield 74, 3) := by decide +kernel
theorem dX11_work_85 : decode cX11_work 85 = .ok (.iload_n 2, 1) := by decide +kernel
theorem dX11_work_86 : decode cX11_work 86 = .ok (.iaload, 1) := by decide +kernel
theorem dX11_work_87 : decode cX11_work 87 = .ok (.iastore, 1) := by decide +kernel
theorem dX11_work_88 : decode cX11_work 88 = .ok (.aload_n 0, 1) := by decide +kernel
theorem dX11_work_89 : decode cX11_work 89 = .ok (.dup, 1) := by decide +kernel
theorem dX11_work_90 : decode cX11_work 90 = .ok (.getfield 242, 3) := by decide +kernel
theorem dX11_work_93 : decode cX11_work 93 = .ok (.iconst 1, 1) := by decide +kernel
theorem dX11_work_94 : decode cX11_work 94 = .ok (.iadd, 1) := by decide +kernel
theorem dX11_work_95 : decode cX11_work 95 = .ok (.putfield 242, 3) := by decide +kernel
theorem dX11_work_98 : decode cX11_work 98 = .ok (.goto 160, 3) := by decide +kernel
theorem dX11_work_101 : decode cX11_work 101 = .ok (.iload_n 1, 1) := by decide +kernel
theorem dX11_work_102 : decode cX11_work 102 = .ok (.iconst 2, 1) := by decide +kernel
theorem dX11_work_103 : decode cX11_work 103 = .ok (.if_icmp .ne 30, 3) := by decide +kernel
theorem dX11_work_106 : decode cX11_work 106 = .ok (.aload_n 0, 1) := by decide +kernel
theorem dX11_work_107 : decode cX11_work 107 = .ok (.getfield 86, 3) := by decide +kernel
theorem dX11_work_110 : decode cX11_work 110 = .ok (.aload_n 0, 1) := by decide +kernel
theorem dX11_work_111 : decode cX11_work 111 = .ok (.getfield 242, 3) := by decide +kernel
theorem dX11_work_114 : decode cX11_work 114 = .ok (.iconst 1, 1) := by decide +kernel
theorem dX11_work_115 : decode cX11_work 115 = .ok (.isub, 1) := by decide +kernel
theorem dX11_work_116 : decode cX11_work 116 = .ok (.iconst 0, 1) := by decide +kernel
theorem dX11_work_117 : decode cX11_work 117 = .ok (.aload_n 0, 1) := by decide +kernel
theorem dX11_work_118 : decode cX11_work 118 = .ok (.getfield 86, 3) := by decide +kernel
theorem dX11_work_121 : decode cX11_work 121 = .ok (.aload_n 0, 1) := by decide +kernel
theorem dX11_work_122 : decode cX11_work 122 = .ok (.getfield 242, 3) := by decide +kernel
theorem dX11_work_125 : decode cX11_work 125 = .ok (.iconst 1, 1) := by decide +kernel
theorem dX11_work_126 : decode cX11_work 126 = .ok (.isub, 1) := by decide +kernel
theorem dX11_work_127 : decode cX11_work 127 = .ok (.iaload, 1) := by decide +kernel
theorem dX11_work_128 : decode cX11_work 128 = .ok (.isub, 1) := by decide +kernel
theorem dX11_work_129 : decode cX11_work 129 = .ok (.iastore, 1) := by decide +kernel
theorem dX11_work_130 : decode cX11_work 130 = .ok (.goto 128, 3) := by decide +kernel
theorem dX11_work_133 : decode cX11_work 133 = .ok (.iload_n 1, 1) := by decide +kernel
theorem dX11_work_134 : decode cX11_work 134 = .ok (.iconst 3, 1) := by decide +kernel
theorem dX11_work_135 : decode cX11_work 135 = .ok (.if_icmp .ne 52, 3) := by decide +kernel
theorem dX11_work_138 : decode cX11_work 138 = .ok (.aload_n 0, 1) := by decide +kernel
theorem dX11_work_139 : decode cX11_work 139 = .ok (.getfield 86, 3) := by decide +kernel
theorem dX11_work_142 : decode cX11_work 142 = .ok (.aload_n 0, 1) := by decide +kernel
theorem dX11_work_143 : decode cX11_work 143 = .ok (.getfield 242, 3) := by decide +kernel
theorem dX11_work_146 : decode cX11_work 146 = .ok (.iconst 1, 1) := by decide +kernel
theorem dX11_work_147 : decode cX11_work 147 = .ok (.isub, 1) := by decide +kernel
theorem dX11_work_148 : decode cX11_work 148 = .ok (.iaload, 1) := by decide +kernel
theorem dX11_work_149 : decode cX11_work 149 = .ok (.invokestatic 245, 3) := by decide +kernel
theorem dX11_work_152 : decode cX11_work 152 = .ok (.ifCond .ne 5, 3) := by decide +kernel
theorem dX11_work_155 : decode cX11_work 155 = .ok (.iconst 3, 1) := by decide +kernel
theorem dX11_work_156 : decode cX11_work 156 = .ok (.ireturn, 1) := by decide +kernel
theorem dX11_work_157 : decode cX11_work 157 = .ok (.aload_n 0, 1) := by decide +kernel
theorem dX11_work_158 : decode cX11_work 158 = .ok (.getfield 86, 3) := by decide +kernel
theorem dX11_work_161 : decode cX11_work 161 = .ok (.aload_n 0, 1) := by decide +kernel
theorem dX11_work_162 : decode cX11_work 162 = .ok (.getfield 242, 3) := by decide +kernel
theorem dX11_work_165 : decode cX11_work 165 = .ok (.iconst 1, 1) := by decide +kernel
theorem dX11_work_166 : decode cX11_work 166 = .ok (.isub, 1) := by decide +kernel
theorem dX11_work_167 : decode cX11_work 167 = .ok (.aload_n 0, 1) := by decide +kernel
theorem dX11_work_168 : decode cX11_work 168 = .ok (.getfield 77, 3) := by decide +kernel
theorem dX11_work_171 : decode cX11_work 171 = .ok (.aload_n 0, 1) := by decide +kernel
theorem dX11_work_172 : decode cX11_work 172 = .ok (.getfield 86, 3) := by decide +kernel
theorem dX11_work_175 : decode cX11_work 175 = .ok (.aload_n 0, 1) := by decide +kernel
theorem dX11_work_176 : decode cX11_work 176 = .ok (.getfield 242, 3) := by decide +kernel
theorem dX11_work_179 : decode cX11_work 179 = .ok (.iconst 1, 1) := by decide +kernel
theorem dX11_work_180 : decode cX11_work 180 = .ok (.isub, 1) := by decide +kernel
theorem dX11_work_181 : decode cX11_work 181 = .ok (.iaload, 1) := by decide +kernel
theorem dX11_work_182 : decode cX11_work 182 = .ok (.iaload, 1) := by decide +kernel
theorem dX11_work_183 : decode cX11_work 183 = .ok (.iastore, 1) := by decide +kernel
theorem dX11_work_184 : decode cX11_work 184 = .ok (.goto 74, 3) := by decide +kernel
theorem dX11_work_187 : decode cX11_work 187 = .ok (.aload_n 0, 1) := by decide +kernel
theorem dX11_work_188 : decode cX11_work 188 = .ok (.dup, 1) := by decide +kernel
theorem dX11_work_189 : decode cX11_work 189 = .ok (.getfield 242, 3) := by decide +kernel
theorem dX11_work_192 : decode cX11_work 192 = .ok (.iconst 1, 1) := by decide +kernel
theorem dX11_work_193 : decode cX11_work 193 = .ok (.isub, 1) := by decide +kernel
theorem dX11_work_194 : decode cX11_work 194 = .ok (.putfield 242, 3) := by decide +kernel
theorem dX11_work_197 : decode cX11_work 197 = .ok (.iload_n 1, 1) := by decide +kernel
theorem dX11_work_198 : decode cX11_work 198 = .ok (.bipush 47, 2) := by decide +kernel
theorem dX11_work_200 : decode cX11_work 200 = .ok (.if_icmp .eq 9, 3) := by decide +kernel
theorem dX11_work_203 : decode cX11_work 203 = .ok (.iload_n 1, 1) := by decide +kernel
theorem dX11_work_204 : decode cX11_work 204 = .ok (.bipush 37, 2) := by decide +kernel
theorem dX11_work_206 : decode cX11_work 206 = .ok (.if_icmp .ne 17, 3) := by decide +kernel
theorem dX11_work_209 : decode cX11_work 209 = .ok (.aload_n 0, 1) := by decide +kernel
theorem dX11_work_210 : decode cX11_work 210 = .ok (.getfield 86, 3) := by decide +kernel
theorem dX11_work_213 : decode cX11_work 213 = .ok (.aload_n 0, 1) := by decide +kernel
theorem dX11_work_214 : decode cX11_work 214 = .ok (.getfield 242, 3) := by decide +kernel
theorem dX11_work_217 : decode cX11_work 217 = .ok (.iaload, 1) := by decide +kernel
theorem dX11_work_218 : decode cX11_work 218 = .ok (.ifCond .ne 5, 3) := by decide +kernel
theorem dX11_work_221 : decode cX11_work 221 = .ok (.iconst 2, 1) := by decide +kernel
theorem dX11_work_222 : decode cX11_work 222 = .ok (.ireturn, 1) := by decide +kernel
theorem dX11_work_223 : decode cX11_work 223 = .ok (.aload_n 0, 1) := by decide +kernel
theorem dX11_work_224 : decode cX11_work 224 = .ok (.getfield 86, 3) := by decide +kernel
theorem dX11_work_227 : decode cX11_work 227 = .ok (.aload_n 0, 1) := by decide +kernel
theorem dX11_work_228 : decode cX11_work 228 = .ok (.getfield 242, 3) := by decide +kernel
theorem dX11_work_231 : decode cX11_work 231 = .ok (.iconst 1, 1) := by decide +kernel
theorem dX11_work_232 : decode cX11_work 232 = .ok (.isub, 1) := by decide +kernel
theorem dX11_work_233 : decode cX11_work 233 = .ok (.iload_n 1, 1) := by decide +kernel
theorem dX11_work_234 : decode cX11_work 234 = .ok (.aload_n 0, 1) := by decide +kernel
theorem dX11_work_235 : decode cX11_work 235 = .ok (.getfield 86, 3) := by decide +kernel
theorem dX11_work_238 : decode cX11_work 238 = .ok (.aload_n 0, 1) := by decide +kernel
theorem dX11_work_239 : decode cX11_work 239 = .ok (.getfield 242, 3) := by decide +kernel
theorem dX11_work_242 : decode cX11_work 242 = .ok (.iconst 1, 1) := by decide +kernel
theorem dX11_work_243 : decode cX11_work 243 = .ok (.isub, 1) := by decide +kernel
theorem dX11_work_244 : decode cX11_work 244 = .ok (.iaload, 1) := by decide +kernel
theorem dX11_work_245 : decode cX11_work 245 = .ok (.aload_n 0, 1) := by decide +kernel
theorem dX11_work_246 : decode cX11_work 246 = .ok (.getfield 86, 3) := by decide +kernel
theorem dX11_work_249 : decode cX11_work 249 = .ok (.aload_n 0, 1) := by decide +kernel
theorem dX11_work_250 : decode cX11_work 250 = .ok (.getfield 242, 3) := by decide +kernel
theorem dX11_work_253 : decode cX11_work 253 = .ok (.iaload, 1) := by decide +kernel
theorem dX11_work_254 : decode cX11_work 254 = .ok (.invokestatic 248, 3) := by decide +kernel
theorem dX11_work_257 : decode cX11_work 257 = .ok (.iastore, 1) := by decide +kernel
theorem dX11_work_258 : decode cX11_work 258 = .ok (.iconst 0, 1) := by decide +kernel
theorem dX11_work_259 : decode cX11_work 259 = .ok (.ireturn, 1) := by decide +kernel
set_option maxRecDepth 20000 in
set_option maxHeartbeats 4000000 in
theorem tb_X11_work_b223 {p : Program} {l : Launch} {e : Env} {s : State} {m : MethodId} {args : Array Value} {below : List Frame} {meth : Method} {c : Code} {G : GG} {Φ : Int32 → S9 → Prop}  (hE : Ev 27 G p s m args c cX11_work RX11) (hml : c.maxLocals = 3) (hr : meth.sig.returnType = (some .int)) (hlk : meth.locks = false)  {a1 : Int32} {σ : S9} {H : Heap} {locs : List Loc} {ls : Array Slot} (hq : wp_X11_work_b223  Φ a1 σ) (hw : Pic mwl 27 G σ s.heap H locs) (hl : lv_has ls 3 [(0, .ref (gAd G 0)), (1, .int a1)]) : W p l e rm_X11_work s m args below meth c H locs 0 0 (QI mwl 27 G below args s Φ) (F0 m 223 ls []) := by
  unfold wp_X11_work_b223 at hq
  refine lv_aload_n hE.1 hE.2.1 dX11_work_223 rfl (lv_at hl 0 rfl) ?_
  refine mgf_X11_86 hE hw dX11_work_224 ?_
  refine lv_aload_n hE.1 hE.2.1 dX11_work_227 rfl (lv_at hl 0 rfl) ?_
  refine mgf_X11_242 hE hw dX11_work_228 ?_
  refine lv_iconst (v := (1 : Int32)) hE.1 hE.2.1 dX11_work_231 (by decide) ?_
  refine lv_isub hE.1 hE.2.1 dX11_work_232 ?_
  refine lv_iload_n hE.1 hE.2.1 dX11_work_233 rfl (lv_at hl 1 rfl) ?_
  refine lv_aload_n hE.1 hE.2.1 dX11_work_234 rfl (lv_at hl 0 rfl) ?_
  refine mgf_X11_86 hE hw dX11_work_235 ?_
  refine lv_aload_n hE.1 hE.2.1 dX11_work_238 rfl (lv_at hl 0 rfl) ?_
  refine mgf_X11_242 hE hw dX11_work_239 ?_
  refine lv_iconst (v := (1 : Int32)) hE.1 hE.2.1 dX11_work_242 (by decide) ?_
  refine lv_isub hE.1 hE.2.1 dX11_work_243 ?_
  obtain ⟨hi1, hq⟩ := hq
  refine mal_26 hE hw hi1 dX11_work_244 ?_
  refine lv_aload_n hE.1 hE.2.1 dX11_work_245 rfl (lv_at hl 0 rfl) ?_
  refine mgf_X11_86 hE hw dX11_work_246 ?_
  refine lv_aload_n hE.1 hE.2.1 dX11_work_249 rfl (lv_at hl 0 rfl) ?_
  refine mgf_X11_242 hE hw dX11_work_250 ?_
  obtain ⟨hi2, hq⟩ := hq
  refine mal_26 hE hw hi2 dX11_work_253 ?_
  refine clSi (rest := [.int ((σ.1 25) - (1 : Int32)), .ref (gAd G 26)]) (As := [.int a1, .int (σ.2.1 25 (((σ.1 25) - (1 : Int32))).toNatClampNeg), .int (σ.2.1 25 ((σ.1 25)).toNatClampNeg)]) hE hml hl.1 hw (c_X11_joinedValue hE.2.2.2.2.2 l _ _ _ _ _ hq) mu136 mu137 mu138 mu3 (k := 3) (by decide +kernel) (by decide) rfl rfl (Nat.le_of_ble_eq_true rfl) dX11_work_254 (by decide) (fun r3 σ1 hq H locs hw => ?_)
  obtain ⟨hi4, hq⟩ := hq
  refine mas_26 hE hw hi4 dX11_work_257 (fun σ2 eσ2 H locs hw => ?_)
  have hq := hq σ2 eσ2
  refine lv_iconst (v := (0 : Int32)) hE.1 hE.2.1 dX11_work_258 (by decide) ?_
  exact rtI hE hr hlk hw hq dX11_work_259
set_option maxRecDepth 20000 in
set_option maxHeartbeats 4000000 in
theorem tb_X11_work_b209 {p : Program} {l : Launch} {e : Env} {s : State} {m : MethodId} {args : Array Value} {below : List Frame} {meth : Method} {c : Code} {G : GG} {Φ : Int32 → S9 → Prop}  (hE : Ev 27 G p s m args c cX11_work RX11) (hml : c.maxLocals = 3) (hr : meth.sig.returnType = (some .int)) (hlk : meth.locks = false)  {a1 : Int32} {σ : S9} {H : Heap} {locs : List Loc} {ls : Array Slot} (hq : wp_X11_work_b209  Φ a1 σ) (hw : Pic mwl 27 G σ s.heap H locs) (hl : lv_has ls 3 [(0, .ref (gAd G 0)), (1, .int a1)]) : W p l e rm_X11_work s m args below meth c H locs 0 0 (QI mwl 27 G below args s Φ) (F0 m 209 ls []) := by
  unfold wp_X11_work_b209 at hq
  refine lv_aload_n hE.1 hE.2.1 dX11_work_209 rfl (lv_at hl 0 rfl) ?_
  refine mgf_X11_86 hE hw dX11_work_210 ?_
  refine lv_aload_n hE.1 hE.2.1 dX11_work_213 rfl (lv_at hl 0 rfl) ?_
  refine mgf_X11_242 hE hw dX11_work_214 ?_
  obtain ⟨hi1, hq⟩ := hq
  refine mal_26 hE hw hi1 dX11_work_217 ?_
  refine lv_if_ne (tgt := 223) hE.1 hE.2.1 dX11_work_218 (by decide) (fun c2 => ?_) (fun c2 => ?_)
  · have hq := hq.2 c2
    exact tb_X11_work_b223 hE hml hr hlk  hq hw (lv_sub hl [0, 1] rfl)
  · have hq := hq.1 c2
    refine lv_iconst (v := (2 : Int32)) hE.1 hE.2.1 dX11_work_221 (by decide) ?_
    exact rtI hE hr hlk hw hq dX11_work_222
set_option maxRecDepth 20000 in
set_option maxHeartbeats 4000000 in
theorem tb_X11_work_b87 {p : Program} {l : Launch} {e : Env} {s : State} {m : MethodId} {args : Array Value} {below : List Frame} {meth : Method} {c : Code} {G : GG} {Φ : Int32 → S9 → Prop}  (hE : Ev 27 G p s m args c cX11_work RX11) (hml : c.maxLocals = 3) (hr : meth.sig.returnType = (some .int)) (hlk : meth.locks = false)  {t0 : Int32} {t1 : Int32} {σ : S9} {H : Heap} {locs : List Loc} {ls : Array Slot} (hq : wp_X11_work_b87  Φ t0 t1 σ) (hw : Pic mwl 27 G σ s.heap H locs) (hl : lv_has ls 3 [(0, .ref (gAd G 0))]) : W p l e rm_X11_work s m args below meth c H locs 0 0 (QI mwl 27 G below args s Φ) (F0 m 87 ls [.int t0, .int t1, .ref (gAd G 26)]) := by
  unfold wp_X11_work_b87 at hq
  obtain ⟨hi1, hq⟩ := hq
  refine mas_26 hE hw hi1 dX11_work_87 (fun σ1 eσ1 H locs hw => ?_)
  have hq := hq σ1 eσ1
  refine lv_aload_n hE.1 hE.2.1 dX11_work_88 rfl (lv_at hl 0 rfl) ?_
  refine lv_dup hE.1 hE.2.1 dX11_work_89 rfl ?_
  refine mgf_X11_242 hE hw dX11_work_90 ?_
  refine lv_iconst (v := (1 : Int32)) hE.1 hE.2.1 dX11_work_93 (by decide) ?_
  refine lv_iadd hE.1 hE.2.1 dX11_work_94 ?_
  refine mpf_X11_242 hE hw dX11_work_95 (fun σ2 eσ2 H locs hw => ?_)
  have hq := hq σ2 eσ2
  refine lv_goto (tgt := 258) hE.1 hE.2.1 dX11_work_98 (by decide) ?_
  refine lv_iconst (v := (0 : Int32)) hE.1 hE.2.1 dX11_work_258 (by decide) ?_
  exact rtI hE hr hlk hw hq dX11_work_259
set_option maxRecDepth 20000 in
set_option maxHeartbeats 4000000 in
theorem c_X11_work {G : GG} (hJ : gJ 27 G) (l : Launch) (a1 : Int32) (a2 : Int32) (σ : S9) (Φ : Int32 → S9 → Prop) (hq : wp_X11_work a1 a2 σ Φ) : CI mwl 27 G l yX11_work cX11_work 3 (some .int) rm_X11_work [.ref (gAd G 0), .int a1, .int a2] σ Φ := by
  refine CI.intro (by decide) (Nat.le_of_ble_eq_true rfl) hJ ?_
  intro p e s m args below meth c ls hE hml hr hlk hw hl
  have hl : lv_has ls 3 [(0, .ref (gAd G 0)), (1, .int a1), (2, .int a2)] := hl
  unfold wp_X11_work at hq
  refine lv_iload_n hE.1 hE.2.1 dX11_work_0 rfl (lv_at hl 1 rfl) ?_
  refine lv_bipush (v := (35 : Int32)) hE.1 hE.2.1 dX11_work_1 (by decide) ?_
  refine lv_icmp_ne (tgt := 60) hE.1 hE.2.1 dX11_work_3 (by decide) (fun c1 => ?_) (fun c1 => ?_)
  · have hq := hq.2 c1
    refine lv_iload_n hE.1 hE.2.1 dX11_work_60 rfl (lv_at hl 1 rfl) ?_
    refine lv_iconst (v := (2 : Int32)) hE.1 hE.2.1 dX11_work_61 (by decide) ?_
    refine lv_icmp_ge (tgt := 101) hE.1 hE.2.1 dX11_work_62 (by decide) (fun c2 => ?_) (fun c2 => ?_)
    · have hq := hq.1 c2
      refine lv_iload_n hE.1 hE.2.1 dX11_work_101 rfl (lv_at hl 1 rfl) ?_
      refine lv_iconst (v := (2 : Int32)) hE.1 hE.2.1 dX11_work_102 (by decide) ?_
      refine lv_icmp_ne (tgt := 133) hE.1 hE.2.1 dX11_work_103 (by decide) (fun c3 => ?_) (fun c3 => ?_)
      · have hq := hq.2 c3
        refine lv_iload_n hE.1 hE.2.1 dX11_work_133 rfl (lv_at hl 1 rfl) ?_
        refine lv_iconst (v := (3 : Int32)) hE.1 hE.2.1 dX11_work_134 (by decide) ?_
        refine lv_icmp_ne (tgt := 187) hE.1 hE.2.1 dX11_work_135 (by decide) (fun c4 => ?_) (fun c4 => ?_)
        · have hq := hq.2 c4
          refine lv_aload_n hE.1 hE.2.1 dX11_work_187 rfl (lv_at hl 0 rfl) ?_
          refine lv_dup hE.1 hE.2.1 dX11_work_188 rfl ?_
          refine mgf_X11_242 hE hw dX11_work_189 ?_
          refine lv_iconst (v := (1 : Int32)) hE.1 hE.2.1 dX11_work_192 (by decide) ?_
          refine lv_isub hE.1 hE.2.1 dX11_work_193 ?_
          refine mpf_X11_242 hE hw dX11_work_194 (fun σ1 eσ1 H locs hw => ?_)
          have hq := hq σ1 eσ1
          refine lv_iload_n hE.1 hE.2.1 dX11_work_197 rfl (lv_at hl 1 rfl) ?_
          refine lv_bipush (v := (47 : Int32)) hE.1 hE.2.1 dX11_work_198 (by decide) ?_
          refine lv_icmp_eq (tgt := 209) hE.1 hE.2.1 dX11_work_200 (by decide) (fun c5 => ?_) (fun c5 => ?_)
          · have hq := hq.1 c5
            exact tb_X11_work_b209 hE hml hr hlk  hq hw (lv_sub hl [0, 1] rfl)
          · have hq := hq.2 c5
            refine lv_iload_n hE.1 hE.2.1 dX11_work_203 rfl (lv_at hl 1 rfl) ?_
            refine lv_bipush (v := (37 : Int32)) hE.1 hE.2.1 dX11_work_204 (by decide) ?_
            refine lv_icmp_ne (tgt := 223) hE.1 hE.2.1 dX11_work_206 (by decide) (fun c6 => ?_) (fun c6 => ?_)
            · have hq := hq.2 c6
              exact tb_X11_work_b223 hE hml hr hlk  hq hw (lv_sub hl [0, 1] rfl)
            · have hq := hq.1 c6
              exact tb_X11_work_b209 hE hml hr hlk  hq hw (lv_sub hl [0, 1] rfl)
        · have hq := hq.1 c4
          refine lv_aload_n hE.1 hE.2.1 dX11_work_138 rfl (lv_at hl 0 rfl) ?_
          refine mgf_X11_86 hE hw dX11_work_139 ?_
          refine lv_aload_n hE.1 hE.2.1 dX11_work_142 rfl (lv_at hl 0 rfl) ?_
          refine mgf_X11_242 hE hw dX11_work_143 ?_
          refine lv_iconst (v := (1 : Int32)) hE.1 hE.2.1 dX11_work_146 (by decide) ?_
          refine lv_isub hE.1 hE.2.1 dX11_work_147 ?_
          obtain ⟨hi7, hq⟩ := hq
          refine mal_26 hE hw hi7 dX11_work_148 ?_
          refine clSi (rest := []) (As := [.int (σ.2.1 25 (((σ.1 25) - (1 : Int32))).toNatClampNeg)]) hE hml hl.1 hw (c_X11_isCell hE.2.2.2.2.2 l _ _ _ hq) mu133 mu134 mu135 mu3 (k := 1) (by decide +kernel) (by decide) rfl rfl (Nat.le_of_ble_eq_true rfl) dX11_work_149 (by decide) (fun r8 σ2 hq H locs hw => ?_)
          refine lv_if_ne (tgt := 157) hE.1 hE.2.1 dX11_work_152 (by decide) (fun c9 => ?_) (fun c9 => ?_)
          · have hq := hq.2 c9
            refine lv_aload_n hE.1 hE.2.1 dX11_work_157 rfl (lv_at hl 0 rfl) ?_
            refine mgf_X11_86 hE hw dX11_work_158 ?_
            refine lv_aload_n hE.1 hE.2.1 dX11_work_161 rfl (lv_at hl 0 rfl) ?_
            refine mgf_X11_242 hE hw dX11_work_162 ?_
            refine lv_iconst (v := (1 : Int32)) hE.1 hE.2.1 dX11_work_165 (by decide) ?_
            refine lv_isub hE.1 hE.2.1 dX11_work_166 ?_
            refine lv_aload_n hE.1 hE.2.1 dX11_work_167 rfl (lv_at hl 0 rfl) ?_
            refine mgf_X11_77 hE hw dX11_work_168 ?_
            refine lv_aload_n hE.1 hE.2.1 dX11_work_171 rfl (lv_at hl 0 rfl) ?_
            refine mgf_X11_86 hE hw dX11_work_172 ?_
            refine lv_aload_n hE.1 hE.2.1 dX11_work_175 rfl (lv_at hl 0 rfl) ?_
            refine mgf_X11_242 hE hw dX11_work_176 ?_
            refine lv_iconst (v := (1 : Int32)) hE.1 hE.2.1 dX11_work_179 (by decide) ?_
            refine lv_isub hE.1 hE.2.1 dX11_work_180 ?_
            obtain ⟨hi10, hq⟩ := hq
            refine mal_26 hE hw hi10 dX11_work_181 ?_
            obtain ⟨hi11, hq⟩ := hq
            refine mal_23 hE hw hi11 dX11_work_182 ?_
            obtain ⟨hi12, hq⟩ := hq
            refine mas_26 hE hw hi12 dX11_work_183 (fun σ3 eσ3 H locs hw => ?_)
            have hq := hq σ3 eσ3
            refine lv_goto (tgt := 258) hE.1 hE.2.1 dX11_work_184 (by decide) ?_
            refine lv_iconst (v := (0 : Int32)) hE.1 hE.2.1 dX11_work_258 (by decide) ?_
            exact rtI hE hr hlk hw hq dX11_work_259
          · have hq := hq.1 c9
            refine lv_iconst (v := (3 : Int32)) hE.1 hE.2.1 dX11_work_155 (by decide) ?_
            exact rtI hE hr hlk hw hq dX11_work_156
      · have hq := hq.1 c3
        refine lv_aload_n hE.1 hE.2.1 dX11_work_106 rfl (lv_at hl 0 rfl) ?_
        refine mgf_X11_86 hE hw dX11_work_107 ?_
        refine lv_aload_n hE.1 hE.2.1 dX11_work_110 rfl (lv_at hl 0 rfl) ?_
        refine mgf_X11_242 hE hw dX11_work_111 ?_
        refine lv_iconst (v := (1 : Int32)) hE.1 hE.2.1 dX11_work_114 (by decide) ?_
        refine lv_isub hE.1 hE.2.1 dX11_work_115 ?_
        refine lv_iconst (v := (0 : Int32)) hE.1 hE.2.1 dX11_work_116 (by decide) ?_
        refine lv_aload_n hE.1 hE.2.1 dX11_work_117 rfl (lv_at hl 0 rfl) ?_
        refine mgf_X11_86 hE hw dX11_work_118 ?_
        refine lv_aload_n hE.1 hE.2.1 dX11_work_121 rfl (lv_at hl 0 rfl) ?_
        refine mgf_X11_242 hE hw dX11_work_122 ?_
        refine lv_iconst (v := (1 : Int32)) hE.1 hE.2.1 dX11_work_125 (by decide) ?_
        refine lv_isub hE.1 hE.2.1 dX11_work_126 ?_
        obtain ⟨hi13, hq⟩ := hq
        refine mal_26 hE hw hi13 dX11_work_127 ?_
        refine lv_isub hE.1 hE.2.1 dX11_work_128 ?_
        obtain ⟨hi14, hq⟩ := hq
        refine mas_26 hE hw hi14 dX11_work_129 (fun σ4 eσ4 H locs hw => ?_)
        have hq := hq σ4 eσ4
        refine lv_goto (tgt := 258) hE.1 hE.2.1 dX11_work_130 (by decide) ?_
        refine lv_iconst (v := (0 : Int32)) hE.1 hE.2.1 dX11_work_258 (by decide) ?_
        exact rtI hE hr hlk hw hq dX11_work_259
    · have hq := hq.2 c2
      refine lv_aload_n hE.1 hE.2.1 dX11_work_65 rfl (lv_at hl 0 rfl) ?_
      refine mgf_X11_86 hE hw dX11_work_66 ?_
      refine lv_aload_n hE.1 hE.2.1 dX11_work_69 rfl (lv_at hl 0 rfl) ?_
      refine mgf_X11_242 hE hw dX11_work_70 ?_
      refine lv_iload_n hE.1 hE.2.1 dX11_work_73 rfl (lv_at hl 1 rfl) ?_
      refine lv_if_ne (tgt := 81) hE.1 hE.2.1 dX11_work_74 (by decide) (fun c15 => ?_) (fun c15 => ?_)
      · have hq := hq.2 c15
        refine lv_aload_n hE.1 hE.2.1 dX11_work_81 rfl (lv_at hl 0 rfl) ?_
        refine mgf_X11_74 hE hw dX11_work_82 ?_
        refine lv_iload_n hE.1 hE.2.1 dX11_work_85 rfl (lv_at hl 2 rfl) ?_
        obtain ⟨hi16, hq⟩ := hq
        refine mal_22 hE hw hi16 dX11_work_86 ?_
        exact tb_X11_work_b87 hE hml hr hlk  hq hw (lv_sub hl [0] rfl)
      · have hq := hq.1 c15
        refine lv_iload_n hE.1 hE.2.1 dX11_work_77 rfl (lv_at hl 2 rfl) ?_
        refine lv_goto (tgt := 87) hE.1 hE.2.1 dX11_work_78 (by decide) ?_
        exact tb_X11_work_b87 hE hml hr hlk  hq hw (lv_sub hl [0] rfl)
  · have hq := hq.1 c1
    refine lv_aload_n hE.1 hE.2.1 dX11_work_6 rfl (lv_at hl 0 rfl) ?_
    refine mgf_X11_239 hE hw dX11_work_7 ?_
    refine lv_aload_n hE.1 hE.2.1 dX11_work_10 rfl (lv_at hl 0 rfl) ?_
    refine mgf_X11_215 hE hw dX11_work_11 ?_
    refine lv_icmp_ne (tgt := 19) hE.1 hE.2.1 dX11_work_14 (by decide) (fun c17 => ?_) (fun c17 => ?_)
    · have hq := hq.2 c17
      refine lv_aload_n hE.1 hE.2.1 dX11_work_19 rfl (lv_at hl 0 rfl) ?_
      refine mgf_X11_86 hE hw dX11_work_20 ?_
      refine lv_aload_n hE.1 hE.2.1 dX11_work_23 rfl (lv_at hl 0 rfl) ?_
      refine mgf_X11_242 hE hw dX11_work_24 ?_
      refine lv_aload_n hE.1 hE.2.1 dX11_work_27 rfl (lv_at hl 0 rfl) ?_
      refine mgf_X11_83 hE hw dX11_work_28 ?_
      refine lv_aload_n hE.1 hE.2.1 dX11_work_31 rfl (lv_at hl 0 rfl) ?_
      refine mgf_X11_239 hE hw dX11_work_32 ?_
      obtain ⟨hi18, hq⟩ := hq
      refine mal_25 hE hw hi18 dX11_work_35 ?_
      obtain ⟨hi19, hq⟩ := hq
      refine mas_26 hE hw hi19 dX11_work_36 (fun σ5 eσ5 H locs hw => ?_)
      have hq := hq σ5 eσ5
      refine lv_aload_n hE.1 hE.2.1 dX11_work_37 rfl (lv_at hl 0 rfl) ?_
      refine lv_dup hE.1 hE.2.1 dX11_work_38 rfl ?_
      refine mgf_X11_239 hE hw dX11_work_39 ?_
      refine lv_iconst (v := (1 : Int32)) hE.1 hE.2.1 dX11_work_42 (by decide) ?_
      refine lv_iadd hE.1 hE.2.1 dX11_work_43 ?_
      refine mpf_X11_239 hE hw dX11_work_44 (fun σ6 eσ6 H locs hw => ?_)
      have hq := hq σ6 eσ6
      refine lv_aload_n hE.1 hE.2.1 dX11_work_47 rfl (lv_at hl 0 rfl) ?_
      refine lv_dup hE.1 hE.2.1 dX11_work_48 rfl ?_
      refine mgf_X11_242 hE hw dX11_work_49 ?_
      refine lv_iconst (v := (1 : Int32)) hE.1 hE.2.1 dX11_work_52 (by decide) ?_
      refine lv_iadd hE.1 hE.2.1 dX11_work_53 ?_
      refine mpf_X11_242 hE hw dX11_work_54 (fun σ7 eσ7 H locs hw => ?_)
      have hq := hq σ7 eσ7
      refine lv_goto (tgt := 258) hE.1 hE.2.1 dX11_work_57 (by decide) ?_
      refine lv_iconst (v := (0 : Int32)) hE.1 hE.2.1 dX11_work_258 (by decide) ?_
      exact rtI hE hr hlk hw hq dX11_work_259
    · have hq := hq.1 c17
      refine lv_iconst (v := (4 : Int32)) hE.1 hE.2.1 dX11_work_17 (by decide) ?_
      exact rtI hE hr hlk hw hq dX11_work_18
/-! QueueBenchModel.workOut(I)I -/
abbrev rm_X11_workOut : Room := { frames := 2, cells := 0, slots := 0, locals := 44 }
def bd_X11_workOut_b20 (K20 : Int32 → Int32 → S9 → Prop) (Φ : Int32 → S9 → Prop) (a1 : Int32) (a2 : Int32) (σ : S9) : Prop := vp_in a1 1200 ∧ ((σ.2.1 9 (a1).toNatClampNeg) ≤ a2 → vp_in a1 1200 ∧ ((σ.2.1 6 (a1).toNatClampNeg) = (164 : Int32) → vp_in (0 : Int32) 400 ∧ wp_X11_isCell (σ.2.1 25 ((0 : Int32)).toNatClampNeg) σ (fun r6 σ1 => (r6 = 0 → Φ (3 : Int32) σ1) ∧ (¬ r6 = 0 → Φ (0 : Int32) σ1))) ∧ (¬ (σ.2.1 6 (a1).toNatClampNeg) = (164 : Int32) → Φ (0 : Int32) σ)) ∧ (¬ (σ.2.1 9 (a1).toNatClampNeg) ≤ a2 → vp_in a2 3002 ∧ vp_in a2 3002 ∧ wp_X11_work (σ.2.1 12 (a2).toNatClampNeg) (σ.2.1 13 (a2).toNatClampNeg) σ (fun r10 σ2 => (r10 ≤ 0 → ∀ x12 : Int32, x12 = a2 + 1 → K20 a1 x12 σ2) ∧ (¬ r10 ≤ 0 → Φ r10 σ2)))
def lp_X11_workOut_b20  (Φ : Int32 → S9 → Prop) : Nat → Int32 → Int32 → S9 → Prop
  | 0 => fun _ _ _ => False
  | n + 1 => bd_X11_workOut_b20  (lp_X11_workOut_b20  Φ n) Φ
def wp_X11_workOut (a1 : Int32) (σ : S9) (Φ : Int32 → S9 → Prop) : Prop := ∀ σ1 : S9, σ1 = sF σ 24 (σ.1 23) → ∀ σ2 : S9, σ2 = sF σ1 25 (0 : Int32) → vp_in a1 1200 ∧ ∀ x2 : Int32, x2 = (σ2.2.1 8 (a1).toNatClampNeg) → ∃ n : Nat, lp_X11_workOut_b20  Φ n a1 x2 σ2
theorem dX11_workOut_0 : decode cX11_workOut 0 = .ok (.aload_n 0, 1) := by decide +kernel
theorem dX11_workOut_1 : decode cX11_workOut 1 = .ok (.aload_n 0, 1) := by decide +kernel
theorem dX11_workOut_2 : decode cX11_workOut 2 = .ok (.getfield 233, 3) := by decide +kernel
theorem dX11_workOut_5 : decode cX11_workOut 5 = .ok (.putfield 239, 3) := by decide +kernel
theorem dX11_workOut_8 : decode cX11_workOut 8 = .ok (.aload_n 0, 1) := by decide +kernel
theorem dX11_workOut_9 : decode cX11_workOut 9 = .ok (.iconst 0, 1) := by decide +kernel
theorem dX11_workOut_10 : decode cX11_workOut 10 = .ok (.putfield 242, 3) := by decide +kernel
theorem dX11_workOut_13 : decode cX11_workOut 13 = .ok (.aload_n 0, 1) := by decide +kernel
theorem dX11_workOut_14 : decode cX11_workOut 14 = .ok (.getfield 34, 3) := by decide +kernel
theorem dX11_workOut_17 : decode cX11_workOut 17 = .ok (.iload_n 1, 1) := by decide +kernel
theorem dX11_workOut_18 : decode cX11_workOut 18 = .ok (.iaload, 1) := by decide +kernel
theorem dX11_workOut_19 : decode cX11_workOut 19 = .ok (.istore_n 2, 1) := by decide +kernel
theorem dX11_workOut_20 : decode cX11_workOut 20 = .ok (.iload_n 2, 1) := by decide +kernel
theorem dX11_workOut_21 : decode cX11_workOut 21 = .ok (.aload_n 0, 1) := by decide +kernel
theorem dX11_workOut_22 : decode cX11_workOut 22 = .ok (.getfield 37, 3) := by decide +kernel
theorem dX11_workOut_25 : decode cX11_workOut 25 = .ok (.iload_n 1, 1) := by decide +kernel
theorem dX11_workOut_26 : decode cX11_workOut 26 = .ok (.iaload, 1) := by decide +kernel
theorem dX11_workOut_27 : decode cX11_workOut 27 = .ok (.if_icmp .ge 32, 3) := by decide +kernel
theorem dX11_workOut_30 : decode cX11_workOut 30 = .ok (.aload_n 0, 1) := by decide +kernel
theorem dX11_workOut_31 : decode cX11_workOut 31 = .ok (.aload_n 0, 1) := by decide +kernel
theorem dX11_workOut_32 : decode cX11_workOut 32 = .ok (.getfield 46, 3) := by decide +kernel
theorem dX11_workOut_35 : decode cX11_workOut 35 = .ok (.iload_n 2, 1) := by decide +kernel
theorem dX11_workOut_36 : decode cX11_workOut 36 = .ok (.iaload, 1) := by decide +kernel
theorem dX11_workOut_37 : decode cX11_workOut 37 = .ok (.aload_n 0, 1) := by decide +kernel
theorem dX11_workOut_38 : decode cX11_workOut 38 = .ok (.getfield 49, 3) := by decide +kernel
theorem dX11_workOut_41 : decode cX11_workOut 41 = .ok (.iload_n 2, 1) := by decide +kernel
theorem dX11_workOut_42 : decode cX11_workOut 42 = .ok (.iaload, 1) := by decide +kernel
theorem dX11_workOut_43 : decode cX11_workOut 43 = .ok (.invokevirtual 251, 3) := by decide +kernel
theorem dX11_workOut_46 : decode cX11_workOut 46 = .ok (.istore_n 3, 1) := by decide +kernel
theorem dX11_workOut_47 : decode cX11_workOut 47 = .ok (.iload_n 3, 1) := by decide +kernel
theorem dX11_workOut_48 : decode cX11_workOut 48 = .ok (.ifCond .le 5, 3) := by decide +kernel
theorem dX11_workOut_51 : decode cX11_workOut 51 = .ok (.iload_n 3, 1) := by decide +kernel
theorem dX11_workOut_52 : decode cX11_workOut 52 = .ok (.ireturn, 1) := by decide +kernel
theorem dX11_workOut_53 : decode cX11_workOut 53 = .ok (.iinc 2 1, 3) := by decide +kernel
theorem dX11_workOut_56 : decode cX11_workOut 56 = .ok (.goto (-36), 3) := by decide +kernel
theorem dX11_workOut_59 : decode cX11_workOut 59 = .ok (.aload_n 0, 1) := by decide +kernel
theorem dX11_workOut_60 : decode cX11_workOut 60 = .ok (.getfield 28, 3) := by decide +kernel
theorem dX11_workOut_63 : decode cX11_workOut 63 = .ok (.iload_n 1, 1) := by decide +kernel
theorem dX11_workOut_64 : decode cX11_workOut 64 = .ok (.iaload, 1) := by decide +kernel
theorem dX11_workOut_65 : decode cX11_workOut 65 = .ok (.sipush 164, 3) := by decide +kernel
theorem dX11_workOut_68 : decode cX11_workOut 68 = .ok (.if_icmp .ne 19, 3) := by decide +kernel
theorem dX11_workOut_71 : decode cX11_workOut 71 = .ok (.aload_n 0, 1) := by decide +kernel
theorem dX11_workOut_72 : decode cX11_workOut 72 = .ok (.getfield 86, 3) := by decide +kernel
theorem dX11_workOut_75 : decode cX11_workOut 75 = .ok (.iconst 0, 1) := by decide +kernel
theorem dX11_workOut_76 : decode cX11_workOut 76 = .ok (.iaload, 1) := by decide +kernel
theorem dX11_workOut_77 : decode cX11_workOut 77 = .ok (.invokestatic 245, 3) := by decide +kernel
theorem dX11_workOut_80 : decode cX11_workOut 80 = .ok (.ifCond .ne 7, 3) := by decide +kernel
theorem dX11_workOut_83 : decode cX11_workOut 83 = .ok (.iconst 3, 1) := by decide +kernel
theorem dX11_workOut_84 : decode cX11_workOut 84 = .ok (.goto 4, 3) := by decide +kernel
theorem dX11_workOut_87 : decode cX11_workOut 87 = .ok (.iconst 0, 1) := by decide +kernel
theorem dX11_workOut_88 : decode cX11_workOut 88 = .ok (.ireturn, 1) := by decide +kernel
set_option maxRecDepth 20000 in
set_option maxHeartbeats 4000000 in
theorem tb_X11_workOut_b20 {p : Program} {l : Launch} {e : Env} {s : State} {m : MethodId} {args : Array Value} {below : List Frame} {meth : Method} {c : Code} {G : GG} {Φ : Int32 → S9 → Prop} {K20 : Int32 → Int32 → S9 → Prop} (hE : Ev 27 G p s m args c cX11_workOut RX11) (hml : c.maxLocals = 4) (hr : meth.sig.returnType = (some .int)) (hlk : meth.locks = false) (hK20 : ∀ (a1 : Int32) (a2 : Int32) (σ : S9) (H : Heap) (locs : List Loc) (ls : Array Slot), K20 a1 a2 σ → Pic mwl 27 G σ s.heap H locs → lv_has ls 4 [(0, .ref (gAd G 0)), (1, .int a1), (2, .int a2)] → W p l e rm_X11_workOut s m args below meth c H locs 0 0 (QI mwl 27 G below args s Φ) (F0 m 20 ls [])) {a1 : Int32} {a2 : Int32} {σ : S9} {H : Heap} {locs : List Loc} {ls : Array Slot} (hq : bd_X11_workOut_b20 K20 Φ a1 a2 σ) (hw : Pic mwl 27 G σ s.heap H locs) (hl : lv_has ls 4 [(0, .ref (gAd G 0)), (1, .int a1), (2, .int a2)]) : W p l e rm_X11_workOut s m args below meth c H locs 0 0 (QI mwl 27 G below args s Φ) (F0 m 20 ls []) := by
  unfold bd_X11_workOut_b20 at hq
  refine lv_iload_n hE.1 hE.2.1 dX11_workOut_20 rfl (lv_at hl 2 rfl) ?_
  refine lv_aload_n hE.1 hE.2.1 dX11_workOut_21 rfl (lv_at hl 0 rfl) ?_
  refine mgf_X11_37 hE hw dX11_workOut_22 ?_
  refine lv_iload_n hE.1 hE.2.1 dX11_workOut_25 rfl (lv_at hl 1 rfl) ?_
  obtain ⟨hi1, hq⟩ := hq
  refine mal_10 hE hw hi1 dX11_workOut_26 ?_
  refine lv_icmp_ge (tgt := 59) hE.1 hE.2.1 dX11_workOut_27 (by decide) (fun c2 => ?_) (fun c2 => ?_)
  · have hq := hq.1 c2
    refine lv_aload_n hE.1 hE.2.1 dX11_workOut_59 rfl (lv_at hl 0 rfl) ?_
    refine mgf_X11_28 hE hw dX11_workOut_60 ?_
    refine lv_iload_n hE.1 hE.2.1 dX11_workOut_63 rfl (lv_at hl 1 rfl) ?_
    obtain ⟨hi3, hq⟩ := hq
    refine mal_7 hE hw hi3 dX11_workOut_64 ?_
    refine lv_sipush (v := (164 : Int32)) hE.1 hE.2.1 dX11_workOut_65 (by decide) ?_
    refine lv_icmp_ne (tgt := 87) hE.1 hE.2.1 dX11_workOut_68 (by decide) (fun c4 => ?_) (fun c4 => ?_)
    · have hq := hq.2 c4
      refine lv_iconst (v := (0 : Int32)) hE.1 hE.2.1 dX11_workOut_87 (by decide) ?_
      exact rtI hE hr hlk hw hq dX11_workOut_88
    · have hq := hq.1 c4
      refine lv_aload_n hE.1 hE.2.1 dX11_workOut_71 rfl (lv_at hl 0 rfl) ?_
      refine mgf_X11_86 hE hw dX11_workOut_72 ?_
      refine lv_iconst (v := (0 : Int32)) hE.1 hE.2.1 dX11_workOut_75 (by decide) ?_
      obtain ⟨hi5, hq⟩ := hq
      refine mal_26 hE hw hi5 dX11_workOut_76 ?_
      refine clSi (rest := []) (As := [.int (σ.2.1 25 ((0 : Int32)).toNatClampNeg)]) hE hml hl.1 hw (c_X11_isCell hE.2.2.2.2.2 l _ _ _ hq) mu133 mu134 mu135 mu3 (k := 1) (by decide +kernel) (by decide) rfl rfl (Nat.le_of_ble_eq_true rfl) dX11_workOut_77 (by decide) (fun r6 σ1 hq H locs hw => ?_)
      refine lv_if_ne (tgt := 87) hE.1 hE.2.1 dX11_workOut_80 (by decide) (fun c7 => ?_) (fun c7 => ?_)
      · have hq := hq.2 c7
        refine lv_iconst (v := (0 : Int32)) hE.1 hE.2.1 dX11_workOut_87 (by decide) ?_
        exact rtI hE hr hlk hw hq dX11_workOut_88
      · have hq := hq.1 c7
        refine lv_iconst (v := (3 : Int32)) hE.1 hE.2.1 dX11_workOut_83 (by decide) ?_
        refine lv_goto (tgt := 88) hE.1 hE.2.1 dX11_workOut_84 (by decide) ?_
        exact rtI hE hr hlk hw hq dX11_workOut_88
  · have hq := hq.2 c2
    refine lv_aload_n hE.1 hE.2.1 dX11_workOut_30 rfl (lv_at hl 0 rfl) ?_
    refine lv_aload_n hE.1 hE.2.1 dX11_workOut_31 rfl (lv_at hl 0 rfl) ?_
    refine mgf_X11_46 hE hw dX11_workOut_32 ?_
    refine lv_iload_n hE.1 hE.2.1 dX11_workOut_35 rfl (lv_at hl 2 rfl) ?_
    obtain ⟨hi8, hq⟩ := hq
    refine mal_13 hE hw hi8 dX11_workOut_36 ?_
    refine lv_aload_n hE.1 hE.2.1 dX11_workOut_37 rfl (lv_at hl 0 rfl) ?_
    refine mgf_X11_49 hE hw dX11_workOut_38 ?_
    refine lv_iload_n hE.1 hE.2.1 dX11_workOut_41 rfl (lv_at hl 2 rfl) ?_
    obtain ⟨hi9, hq⟩ := hq
    refine mal_14 hE hw hi9 dX11_workOut_42 ?_
    refine clVi (rest := []) (As := [.int (σ.2.1 12 (a2).toNatClampNeg), .int (σ.2.1 13 (a2).toNatClampNeg)]) hE hml hl.1 hw (c_X11_work hE.2.2.2.2.2 l _ _ _ _ hq) mu139 mu140 mu141 mu142 mu3 rfl (k := 2) (by decide +kernel) (by decide) (ci := 11) rfl (q0 := 0) rfl rfl rfl (Nat.le_of_ble_eq_true rfl) dX11_workOut_43 (by decide) (fun r10 σ2 hq H locs hw => ?_)
    refine lv_istore_n (lv' := [(3, .int r10), (0, .ref (gAd G 0)), (1, .int a1), (2, .int a2)]) hE.1 hE.2.1 dX11_workOut_46 rfl hl (by decide) rfl (fun ls hl => ?_)
    refine lv_iload_n hE.1 hE.2.1 dX11_workOut_47 rfl (lv_at hl 0 rfl) ?_
    refine lv_if_le (tgt := 53) hE.1 hE.2.1 dX11_workOut_48 (by decide) (fun c11 => ?_) (fun c11 => ?_)
    · have hq := hq.1 c11
      obtain ⟨x12, ex12⟩ : ∃ y : Int32, y = a2 + 1 := ⟨_, rfl⟩
      have hq := hq x12 ex12
      refine lv_iinc (v := x12) (lv' := [(2, .int x12), (3, .int r10), (0, .ref (gAd G 0)), (1, .int a1)]) hE.1 hE.2.1 dX11_workOut_53 hl (k := 3) rfl (by rw [ex12]; rfl) (by decide) rfl (fun ls hl => ?_)
      refine lv_goto (tgt := 20) hE.1 hE.2.1 dX11_workOut_56 (by decide) ?_
      exact hK20 _ _ _ _ _ _ hq hw (lv_sub hl [2, 3, 0] rfl)
    · have hq := hq.2 c11
      refine lv_iload_n hE.1 hE.2.1 dX11_workOut_51 rfl (lv_at hl 0 rfl) ?_
      exact rtI hE hr hlk hw hq dX11_workOut_52
theorem tl_X11_workOut_b20 {p : Program} {l : Launch} {e : Env} {s : State} {m : MethodId} {args : Array Value} {below : List Frame} {meth : Method} {c : Code} {G : GG} {Φ : Int32 → S9 → Prop}  (hE : Ev 27 G p s m args c cX11_workOut RX11) (hml : c.maxLocals = 4) (hr : meth.sig.returnType = (some .int)) (hlk : meth.locks = false)  : ∀ (n : Nat) (a1 : Int32) (a2 : Int32) (σ : S9) (H : Heap) (locs : List Loc) (ls : Array Slot), lp_X11_workOut_b20  Φ n a1 a2 σ → Pic mwl 27 G σ s.heap H locs → lv_has ls 4 [(0, .ref (gAd G 0)), (1, .int a1), (2, .int a2)] → W p l e rm_X11_workOut s m args below meth c H locs 0 0 (QI mwl 27 G below args s Φ) (F0 m 20 ls []) := by
  intro n
  induction n with
  | zero => intro _ _ _ _ _ _ hq; exact hq.elim
  | succ n ih => intro _ _ _ _ _ _ hq hw hl; exact tb_X11_workOut_b20 hE hml hr hlk  ih hq hw hl
set_option maxRecDepth 20000 in
set_option maxHeartbeats 4000000 in
theorem c_X11_workOut {G : GG} (hJ : gJ 27 G) (l : Launch) (a1 : Int32) (σ : S9) (Φ : Int32 → S9 → Prop) (hq : wp_X11_workOut a1 σ Φ) : CI mwl 27 G l yX11_workOut cX11_workOut 4 (some .int) rm_X11_workOut [.ref (gAd G 0), .int a1] σ Φ := by
  refine CI.intro (by decide) (Nat.le_of_ble_eq_true rfl) hJ ?_
  intro p e s m args below meth c ls hE hml hr hlk hw hl
  have hl : lv_has ls 4 [(0, .ref (gAd G 0)), (1, .int a1)] := hl
  unfold wp_X11_workOut at hq
  refine lv_aload_n hE.1 hE.2.1 dX11_workOut_0 rfl (lv_at hl 0 rfl) ?_
  refine lv_aload_n hE.1 hE.2.1 dX11_workOut_1 rfl (lv_at hl 0 rfl) ?_
  refine mgf_X11_233 hE hw dX11_workOut_2 ?_
  refine mpf_X11_239 hE hw dX11_workOut_5 (fun σ1 eσ1 H locs hw => ?_)
  have hq := hq σ1 eσ1
  refine lv_aload_n hE.1 hE.2.1 dX11_workOut_8 rfl (lv_at hl 0 rfl) ?_
  refine lv_iconst (v := (0 : Int32)) hE.1 hE.2.1 dX11_workOut_9 (by decide) ?_
  refine mpf_X11_242 hE hw dX11_workOut_10 (fun σ2 eσ2 H locs hw => ?_)
  have hq := hq σ2 eσ2
  refine lv_aload_n hE.1 hE.2.1 dX11_workOut_13 rfl (lv_at hl 0 rfl) ?_
  refine mgf_X11_34 hE hw dX11_workOut_14 ?_
  refine lv_iload_n hE.1 hE.2.1 dX11_workOut_17 rfl (lv_at hl 1 rfl) ?_
  obtain ⟨hi1, hq⟩ := hq
  refine mal_9 hE hw hi1 dX11_workOut_18 ?_
  refine lv_topi (fun x2 ex2 => ?_)
  have hq := hq x2 ex2
  refine lv_istore_n (lv' := [(2, .int x2), (0, .ref (gAd G 0)), (1, .int a1)]) hE.1 hE.2.1 dX11_workOut_19 rfl hl (by decide) rfl (fun ls hl => ?_)
  obtain ⟨nn, hq⟩ := hq
  exact tl_X11_workOut_b20 hE hml hr hlk  nn _ _ _ _ _ _ hq hw (lv_sub hl [1, 2, 0] rfl)
/-! QueueBenchModel.effect(I)V -/
abbrev rm_X11_effect : Room := { frames := 0, cells := 0, slots := 0, locals := 0 }
def wp_X11_effect_b22  (Φ : S9 → Prop) (a1 : Int32) (t0 : Int32) (σ : S9) : Prop := ∀ σ1 : S9, σ1 = sF σ 17 (a1 + (1 : Int32)) → vp_in a1 1200 ∧ ((σ1.2.1 6 (a1).toNatClampNeg) = (3 : Int32) → vp_in a1 1200 ∧ vp_in (σ1.2.1 7 (a1).toNatClampNeg) 26 ∧ ∀ σ2 : S9, σ2 = sA σ1 21 (upd (σ1.2.1 21) ((σ1.2.1 7 (a1).toNatClampNeg)).toNatClampNeg t0) → Φ σ2) ∧ (¬ (σ1.2.1 6 (a1).toNatClampNeg) = (3 : Int32) → ((σ1.2.1 6 (a1).toNatClampNeg) = (4 : Int32) → vp_in (σ1.1 20) 30 ∧ ∀ σ3 : S9, σ3 = sA σ1 20 (upd (σ1.2.1 20) ((σ1.1 20)).toNatClampNeg (σ1.1 17)) → ∀ σ4 : S9, σ4 = sF σ3 20 ((σ3.1 20) + (1 : Int32)) → vp_in a1 1200 ∧ ∀ σ5 : S9, σ5 = sF σ4 17 (σ4.2.1 7 (a1).toNatClampNeg) → Φ σ5) ∧ (¬ (σ1.2.1 6 (a1).toNatClampNeg) = (4 : Int32) → ((σ1.2.1 6 (a1).toNatClampNeg) = (133 : Int32) → vp_in ((σ1.1 21) - (σ1.1 21) / (200 : Int32) * (200 : Int32)) 200 ∧ ∀ σ6 : S9, σ6 = sA σ1 23 (upd (σ1.2.1 23) (((σ1.1 21) - (σ1.1 21) / (200 : Int32) * (200 : Int32))).toNatClampNeg t0) → ∀ σ7 : S9, σ7 = sF σ6 21 ((σ6.1 21) + (1 : Int32)) → Φ σ7) ∧ (¬ (σ1.2.1 6 (a1).toNatClampNeg) = (133 : Int32) → ((σ1.2.1 6 (a1).toNatClampNeg) = (164 : Int32) → vp_in (0 : Int32) 400 ∧ vp_in (σ1.2.1 25 ((0 : Int32)).toNatClampNeg) 100 ∧ ∀ σ8 : S9, σ8 = sA σ1 22 (upd (σ1.2.1 22) ((σ1.2.1 25 ((0 : Int32)).toNatClampNeg)).toNatClampNeg t0) → Φ σ8) ∧ (¬ (σ1.2.1 6 (a1).toNatClampNeg) = (164 : Int32) → (t0 = 0 → vp_in a1 1200 ∧ ∀ σ10 : S9, σ10 = sF σ1 17 (σ1.2.1 7 (a1).toNatClampNeg) → Φ σ10) ∧ (¬ t0 = 0 → ∀ σ9 : S9, σ9 = sF σ1 17 (σ1.1 17) → Φ σ9)))))
def wp_X11_effect (a1 : Int32) (σ : S9) (Φ : S9 → Prop) : Prop := ((σ.1 25) ≤ 0 → wp_X11_effect_b22  Φ a1 (0 : Int32) σ) ∧ (¬ (σ.1 25) ≤ 0 → vp_in ((σ.1 25) - (1 : Int32)) 400 ∧ wp_X11_effect_b22  Φ a1 (σ.2.1 25 (((σ.1 25) - (1 : Int32))).toNatClampNeg) σ)
theorem dX11_effect_0 : decode cX11_effect 0 = .ok (.aload_n 0, 1) := by decide +kernel
theorem dX11_effect_1 : decode cX11_effect 1 = .ok (.getfield 242, 3) := by decide +kernel
theorem dX11_effect_4 : decode cX11_effect 4 = .ok (.ifCond .le 17, 3) := by decide +kernel
theorem dX11_effect_7 : decode cX11_effect 7 = .ok (.aload_n 0, 1) := by decide +kernel
theorem dX11_effect_8 : decode cX11_effect 8 = .ok (.getfield 86, 3) := by decide +kernel
theorem dX11_effect_11 : decode cX11_effect 11 = .ok (.aload_n 0, 1) := by decide +kernel
theorem dX11_effect_12 : decode cX11_effect 12 = .ok (.getfield 242, 3) := by decide +kernel
theorem dX11_effect_15 : decode cX11_effect 15 = .ok (.iconst 1, 1) := by decide +kernel
theorem dX11_effect_16 : decode cX11_effect 16 = .ok (.isub, 1) := by decide +kernel
theorem dX11_effect_17 : decode cX11_effect 17 = .ok (.iaload, 1) := by decide +kernel
theorem dX11_effect_18 : decode cX11_effect 18 = .ok (.goto 4, 3) := by decide +kernel
theorem dX11_effect_21 : decode cX11_effect 21 = .ok (.iconst 0, 1) := by decide +kernel
theorem dX11_effect_22 : decode cX11_effect 22 = .ok (.istore_n 2, 1) := by decide +kernel
theorem dX11_effect_23 : decode cX11_effect 23 = .ok (.aload_n 0, 1) := by decide +kernel
theorem dX11_effect_24 : decode cX11_effect 24 = .ok (.iload_n 1, 1) := by decide +kernel
theorem dX11_effect_25 : decode cX11_effect 25 = .ok (.iconst 1, 1) := by decide +kernel
theorem dX11_effect_26 : decode cX11_effect 26 = .ok (.iadd, 1) := by decide +kernel
theorem dX11_effect_27 : decode cX11_effect 27 = .ok (.putfield 218, 3) := by decide +kernel
theorem dX11_effect_30 : decode cX11_effect 30 = .ok (.aload_n 0, 1) := by decide +kernel
theorem dX11_effect_31 : decode cX11_effect 31 = .ok (.getfield 28, 3) := by decide +kernel
theorem dX11_effect_34 : decode cX11_effect 34 = .ok (.iload_n 1, 1) := by decide +kernel
theorem dX11_effect_35 : decode cX11_effect 35 = .ok (.iaload, 1) := by decide +kernel
theorem dX11_effect_36 : decode cX11_effect 36 = .ok (.lookupswitch 137 #[(3, 44), (4, 101), (133, 74), (164, 59)], 44) := by decide +kernel
theorem dX11_effect_80 : decode cX11_effect 80 = .ok (.aload_n 0, 1) := by decide +kernel
theorem dX11_effect_81 : decode cX11_effect 81 = .ok (.getfield 74, 3) := by decide +kernel
theorem dX11_effect_84 : decode cX11_effect 84 = .ok (.aload_n 0, 1) := by decide +kernel
theorem dX11_effect_85 : decode cX11_effect 85 = .ok (.getfield 31, 3) := by decide +kernel
theorem dX11_effect_88 : decode cX11_effect 88 = .ok (.iload_n 1, 1) := by decide +kernel
theorem dX11_effect_89 : decode cX11_effect 89 = .ok (.iaload, 1) := by decide +kernel
theorem dX11_effect_90 : decode cX11_effect 90 = .ok (.iload_n 2, 1) := by decide +kernel
theorem dX11_effect_91 : decode cX11_effect 91 = .ok (.iastore, 1) := by decide +kernel
theorem dX11_effect_92 : decode cX11_effect 92 = .ok (.goto 102, 3) := by decide +kernel
theorem dX11_effect_95 : decode cX11_effect 95 = .ok (.aload_n 0, 1) := by decide +kernel
theorem dX11_effect_96 : decode cX11_effect 96 = .ok (.getfield 77, 3) := by decide +kernel
theorem dX11_effect_99 : decode cX11_effect 99 = .ok (.aload_n 0, 1) := by decide +kernel
theorem dX11_effect_100 : decode cX11_effect 100 = .ok (.getfield 86, 3) := by decide +kernel
theorem dX11_effect_103 : decode cX11_effect 103 = .ok (.iconst 0, 1) := by decide +kernel
theorem dX11_effect_104 : decode cX11_effect 104 = .ok (.iaload, 1) := by decide +kernel
theorem dX11_effect_105 : decode cX11_effect 105 = .ok (.iload_n 2, 1) := by decide +kernel
theorem dX11_effect_106 : decode cX11_effect 106 = .ok (.iastore, 1) := by decide +kernel
theorem dX11_effect_107 : decode cX11_effect 107 = .ok (.goto 87, 3) := by decide +kernel
theorem dX11_effect_110 : decode cX11_effect 110 = .ok (.aload_n 0, 1) := by decide +kernel
theorem dX11_effect_111 : decode cX11_effect 111 = .ok (.getfield 80, 3) := by decide +kernel
theorem dX11_effect_114 : decode cX11_effect 114 = .ok (.aload_n 0, 1) := by decide +kernel
theorem dX11_effect_115 : decode cX11_effect 115 = .ok (.getfield 230, 3) := by decide +kernel
theorem dX11_effect_118 : decode cX11_effect 118 = .ok (.sipush 200, 3) := by decide +kernel
theorem dX11_effect_121 : decode cX11_effect 121 = .ok (.irem, 1) := by decide +kernel
theorem dX11_effect_122 : decode cX11_effect 122 = .ok (.iload_n 2, 1) := by decide +kernel
theorem dX11_effect_123 : decode cX11_effect 123 = .ok (.iastore, 1) := by decide +kernel
theorem dX11_effect_124 : decode cX11_effect 124 = .ok (.aload_n 0, 1) := by decide +kernel
theorem dX11_effect_125 : decode cX11_effect 125 = .ok (.dup, 1) := by decide +kernel
theorem dX11_effect_126 : decode cX11_effect 126 = .ok (.getfield 230, 3) := by decide +kernel
theorem dX11_effect_129 : decode cX11_effect 129 = .ok (.iconst 1, 1) := by decide +kernel
theorem dX11_effect_130 : decode cX11_effect 130 = .ok (.iadd, 1) := by decide +kernel
theorem dX11_effect_131 : decode cX11_effect 131 = .ok (.putfield 230, 3) := by decide +kernel
theorem dX11_effect_134 : decode cX11_effect 134 = .ok (.goto 60, 3) := by decide +kernel
theorem dX11_effect_137 : decode cX11_effect 137 = .ok (.aload_n 0, 1) := by decide +kernel
theorem dX11_effect_138 : decode cX11_effect 138 = .ok (.getfield 71, 3) := by decide +kernel
theorem dX11_effect_141 : decode cX11_effect 141 = .ok (.aload_n 0, 1) := by decide +kernel
theorem dX11_effect_142 : decode cX11_effect 142 = .ok (.getfield 221, 3) := by decide +kernel
theorem dX11_effect_145 : decode cX11_effect 145 = .ok (.aload_n 0, 1) := by decide +kernel
theorem dX11_effect_146 : decode cX11_effect 146 = .ok (.getfield 218, 3) := by decide +kernel
theorem dX11_effect_149 : decode cX11_effect 149 = .ok (.iastore, 1) := by decide +kernel
theorem dX11_effect_150 : decode cX11_effect 150 = .ok (.aload_n 0, 1) := by decide +kernel
theorem dX11_effect_151 : decode cX11_effect 151 = .ok (.dup, 1) := by decide +kernel
theorem dX11_effect_152 : decode cX11_effect 152 = .ok (.getfield 221, 3) := by decide +kernel
theorem dX11_effect_155 : decode cX11_effect 155 = .ok (.iconst 1, 1) := by decide +kernel
theorem dX11_effect_156 : decode cX11_effect 156 = .ok (.iadd, 1) := by decide +kernel
theorem dX11_effect_157 : decode cX11_effect 157 = .ok (.putfield 221, 3) := by decide +kernel
theorem dX11_effect_160 : decode cX11_effect 160 = .ok (.aload_n 0, 1) := by decide +kernel
theorem dX11_effect_161 : decode cX11_effect 161 = .ok (.aload_n 0, 1) := by decide +kernel
theorem dX11_effect_162 : decode cX11_effect 162 = .ok (.getfield 31, 3) := by decide +kernel
theorem dX11_effect_165 : decode cX11_effect 165 = .ok (.iload_n 1, 1) := by decide +kernel
theorem dX11_effect_166 : decode cX11_effect 166 = .ok (.iaload, 1) := by decide +kernel
theorem dX11_effect_167 : decode cX11_effect 167 = .ok (.putfield 218, 3) := by decide +kernel
theorem dX11_effect_170 : decode cX11_effect 170 = .ok (.goto 24, 3) := by decide +kernel
theorem dX11_effect_173 : decode cX11_effect 173 = .ok (.aload_n 0, 1) := by decide +kernel
theorem dX11_effect_174 : decode cX11_effect 174 = .ok (.iload_n 2, 1) := by decide +kernel
theorem dX11_effect_175 : decode cX11_effect 175 = .ok (.ifCond .ne 12, 3) := by decide +kernel
theorem dX11_effect_178 : decode cX11_effect 178 = .ok (.aload_n 0, 1) := by decide +kernel
theorem dX11_effect_179 : decode cX11_effect 179 = .ok (.getfield 31, 3) := by decide +kernel
theorem dX11_effect_182 : decode cX11_effect 182 = .ok (.iload_n 1, 1) := by decide +kernel
theorem dX11_effect_183 : decode cX11_effect 183 = .ok (.iaload, 1) := by decide +kernel
theorem dX11_effect_184 : decode cX11_effect 184 = .ok (.goto 7, 3) := by decide +kernel
theorem dX11_effect_187 : decode cX11_effect 187 = .ok (.aload_n 0, 1) := by decide +kernel
theorem dX11_effect_188 : decode cX11_effect 188 = .ok (.getfield 218, 3) := by decide +kernel
theorem dX11_effect_191 : decode cX11_effect 191 = .ok (.putfield 218, 3) := by decide +kernel
theorem dX11_effect_194 : decode cX11_effect 194 = .ok (.return_, 1) := by decide +kernel
set_option maxRecDepth 20000 in
set_option maxHeartbeats 4000000 in
theorem tb_X11_effect_b22 {p : Program} {l : Launch} {e : Env} {s : State} {m : MethodId} {args : Array Value} {below : List Frame} {meth : Method} {c : Code} {G : GG} {Φ : S9 → Prop}  (hE : Ev 27 G p s m args c cX11_effect RX11) (hml : c.maxLocals = 3) (hr : meth.sig.returnType = none) (hlk : meth.locks = false)  {a1 : Int32} {t0 : Int32} {σ : S9} {H : Heap} {locs : List Loc} {ls : Array Slot} (hq : wp_X11_effect_b22  Φ a1 t0 σ) (hw : Pic mwl 27 G σ s.heap H locs) (hl : lv_has ls 3 [(0, .ref (gAd G 0)), (1, .int a1)]) : W p l e rm_X11_effect s m args below meth c H locs 0 0 (QV mwl 27 G below args s Φ) (F0 m 22 ls [.int t0]) := by
  unfold wp_X11_effect_b22 at hq
  refine lv_istore_n (lv' := [(2, .int t0), (0, .ref (gAd G 0)), (1, .int a1)]) hE.1 hE.2.1 dX11_effect_22 rfl hl (by decide) rfl (fun ls hl => ?_)
  refine lv_aload_n hE.1 hE.2.1 dX11_effect_23 rfl (lv_at hl 1 rfl) ?_
  refine lv_iload_n hE.1 hE.2.1 dX11_effect_24 rfl (lv_at hl 2 rfl) ?_
  refine lv_iconst (v := (1 : Int32)) hE.1 hE.2.1 dX11_effect_25 (by decide) ?_
  refine lv_iadd hE.1 hE.2.1 dX11_effect_26 ?_
  refine mpf_X11_218 hE hw dX11_effect_27 (fun σ1 eσ1 H locs hw => ?_)
  have hq := hq σ1 eσ1
  refine lv_aload_n hE.1 hE.2.1 dX11_effect_30 rfl (lv_at hl 1 rfl) ?_
  refine mgf_X11_28 hE hw dX11_effect_31 ?_
  refine lv_iload_n hE.1 hE.2.1 dX11_effect_34 rfl (lv_at hl 2 rfl) ?_
  obtain ⟨hi1, hq⟩ := hq
  refine mal_7 hE hw hi1 dX11_effect_35 ?_
  by_cases c2 : (σ1.2.1 6 (a1).toNatClampNeg) = (3 : Int32)
  · have hq := hq.1 c2
    refine lv_lookup (off := 44) (tgt := 80) hE.1 hE.2.1 dX11_effect_36 (by decide) (osw_hit c2 rfl) (by decide) ?_
    refine lv_aload_n hE.1 hE.2.1 dX11_effect_80 rfl (lv_at hl 1 rfl) ?_
    refine mgf_X11_74 hE hw dX11_effect_81 ?_
    refine lv_aload_n hE.1 hE.2.1 dX11_effect_84 rfl (lv_at hl 1 rfl) ?_
    refine mgf_X11_31 hE hw dX11_effect_85 ?_
    refine lv_iload_n hE.1 hE.2.1 dX11_effect_88 rfl (lv_at hl 2 rfl) ?_
    obtain ⟨hi3, hq⟩ := hq
    refine mal_8 hE hw hi3 dX11_effect_89 ?_
    refine lv_iload_n hE.1 hE.2.1 dX11_effect_90 rfl (lv_at hl 0 rfl) ?_
    obtain ⟨hi4, hq⟩ := hq
    refine mas_22 hE hw hi4 dX11_effect_91 (fun σ2 eσ2 H locs hw => ?_)
    have hq := hq σ2 eσ2
    refine lv_goto (tgt := 194) hE.1 hE.2.1 dX11_effect_92 (by decide) ?_
    exact rtV hE hr hlk hw hq dX11_effect_194
  · have hq := hq.2 c2
    by_cases c5 : (σ1.2.1 6 (a1).toNatClampNeg) = (4 : Int32)
    · have hq := hq.1 c5
      refine lv_lookup (off := 101) (tgt := 137) hE.1 hE.2.1 dX11_effect_36 (by decide) ((lv_osw c2 rfl).trans (osw_hit c5 rfl)) (by decide) ?_
      refine lv_aload_n hE.1 hE.2.1 dX11_effect_137 rfl (lv_at hl 1 rfl) ?_
      refine mgf_X11_71 hE hw dX11_effect_138 ?_
      refine lv_aload_n hE.1 hE.2.1 dX11_effect_141 rfl (lv_at hl 1 rfl) ?_
      refine mgf_X11_221 hE hw dX11_effect_142 ?_
      refine lv_aload_n hE.1 hE.2.1 dX11_effect_145 rfl (lv_at hl 1 rfl) ?_
      refine mgf_X11_218 hE hw dX11_effect_146 ?_
      obtain ⟨hi6, hq⟩ := hq
      refine mas_21 hE hw hi6 dX11_effect_149 (fun σ3 eσ3 H locs hw => ?_)
      have hq := hq σ3 eσ3
      refine lv_aload_n hE.1 hE.2.1 dX11_effect_150 rfl (lv_at hl 1 rfl) ?_
      refine lv_dup hE.1 hE.2.1 dX11_effect_151 rfl ?_
      refine mgf_X11_221 hE hw dX11_effect_152 ?_
      refine lv_iconst (v := (1 : Int32)) hE.1 hE.2.1 dX11_effect_155 (by decide) ?_
      refine lv_iadd hE.1 hE.2.1 dX11_effect_156 ?_
      refine mpf_X11_221 hE hw dX11_effect_157 (fun σ4 eσ4 H locs hw => ?_)
      have hq := hq σ4 eσ4
      refine lv_aload_n hE.1 hE.2.1 dX11_effect_160 rfl (lv_at hl 1 rfl) ?_
      refine lv_aload_n hE.1 hE.2.1 dX11_effect_161 rfl (lv_at hl 1 rfl) ?_
      refine mgf_X11_31 hE hw dX11_effect_162 ?_
      refine lv_iload_n hE.1 hE.2.1 dX11_effect_165 rfl (lv_at hl 2 rfl) ?_
      obtain ⟨hi7, hq⟩ := hq
      refine mal_8 hE hw hi7 dX11_effect_166 ?_
      refine mpf_X11_218 hE hw dX11_effect_167 (fun σ5 eσ5 H locs hw => ?_)
      have hq := hq σ5 eσ5
      refine lv_goto (tgt := 194) hE.1 hE.2.1 dX11_effect_170 (by decide) ?_
      exact rtV hE hr hlk hw hq dX11_effect_194
    · have hq := hq.2 c5
      by_cases c8 : (σ1.2.1 6 (a1).toNatClampNeg) = (133 : Int32)
      · have hq := hq.1 c8
        refine lv_lookup (off := 74) (tgt := 110) hE.1 hE.2.1 dX11_effect_36 (by decide) ((lv_osw c2 rfl).trans ((lv_osw c5 rfl).trans (osw_hit c8 rfl))) (by decide) ?_
        refine lv_aload_n hE.1 hE.2.1 dX11_effect_110 rfl (lv_at hl 1 rfl) ?_
        refine mgf_X11_80 hE hw dX11_effect_111 ?_
        refine lv_aload_n hE.1 hE.2.1 dX11_effect_114 rfl (lv_at hl 1 rfl) ?_
        refine mgf_X11_230 hE hw dX11_effect_115 ?_
        refine lv_sipush (v := (200 : Int32)) hE.1 hE.2.1 dX11_effect_118 (by decide) ?_
        refine lv_irem hE.1 hE.2.1 dX11_effect_121 (by decide) ?_
        refine lv_iload_n hE.1 hE.2.1 dX11_effect_122 rfl (lv_at hl 0 rfl) ?_
        obtain ⟨hi9, hq⟩ := hq
        refine mas_24 hE hw hi9 dX11_effect_123 (fun σ6 eσ6 H locs hw => ?_)
        have hq := hq σ6 eσ6
        refine lv_aload_n hE.1 hE.2.1 dX11_effect_124 rfl (lv_at hl 1 rfl) ?_
        refine lv_dup hE.1 hE.2.1 dX11_effect_125 rfl ?_
        refine mgf_X11_230 hE hw dX11_effect_126 ?_
        refine lv_iconst (v := (1 : Int32)) hE.1 hE.2.1 dX11_effect_129 (by decide) ?_
        refine lv_iadd hE.1 hE.2.1 dX11_effect_130 ?_
        refine mpf_X11_230 hE hw dX11_effect_131 (fun σ7 eσ7 H locs hw => ?_)
        have hq := hq σ7 eσ7
        refine lv_goto (tgt := 194) hE.1 hE.2.1 dX11_effect_134 (by decide) ?_
        exact rtV hE hr hlk hw hq dX11_effect_194
      · have hq := hq.2 c8
        by_cases c10 : (σ1.2.1 6 (a1).toNatClampNeg) = (164 : Int32)
        · have hq := hq.1 c10
          refine lv_lookup (off := 59) (tgt := 95) hE.1 hE.2.1 dX11_effect_36 (by decide) ((lv_osw c2 rfl).trans ((lv_osw c5 rfl).trans ((lv_osw c8 rfl).trans (osw_hit c10 rfl)))) (by decide) ?_
          refine lv_aload_n hE.1 hE.2.1 dX11_effect_95 rfl (lv_at hl 1 rfl) ?_
          refine mgf_X11_77 hE hw dX11_effect_96 ?_
          refine lv_aload_n hE.1 hE.2.1 dX11_effect_99 rfl (lv_at hl 1 rfl) ?_
          refine mgf_X11_86 hE hw dX11_effect_100 ?_
          refine lv_iconst (v := (0 : Int32)) hE.1 hE.2.1 dX11_effect_103 (by decide) ?_
          obtain ⟨hi11, hq⟩ := hq
          refine mal_26 hE hw hi11 dX11_effect_104 ?_
          refine lv_iload_n hE.1 hE.2.1 dX11_effect_105 rfl (lv_at hl 0 rfl) ?_
          obtain ⟨hi12, hq⟩ := hq
          refine mas_23 hE hw hi12 dX11_effect_106 (fun σ8 eσ8 H locs hw => ?_)
          have hq := hq σ8 eσ8
          refine lv_goto (tgt := 194) hE.1 hE.2.1 dX11_effect_107 (by decide) ?_
          exact rtV hE hr hlk hw hq dX11_effect_194
        · have hq := hq.2 c10
          refine lv_lookup (off := 137) (tgt := 173) hE.1 hE.2.1 dX11_effect_36 (by decide) ((lv_osw c2 rfl).trans ((lv_osw c5 rfl).trans ((lv_osw c8 rfl).trans ((lv_osw c10 rfl).trans rfl)))) (by decide) ?_
          refine lv_aload_n hE.1 hE.2.1 dX11_effect_173 rfl (lv_at hl 1 rfl) ?_
          refine lv_iload_n hE.1 hE.2.1 dX11_effect_174 rfl (lv_at hl 0 rfl) ?_
          refine lv_if_ne (tgt := 187) hE.1 hE.2.1 dX11_effect_175 (by decide) (fun c13 => ?_) (fun c13 => ?_)
          · have hq := hq.2 c13
            refine lv_aload_n hE.1 hE.2.1 dX11_effect_187 rfl (lv_at hl 1 rfl) ?_
            refine mgf_X11_218 hE hw dX11_effect_188 ?_
            refine mpf_X11_218 hE hw dX11_effect_191 (fun σ9 eσ9 H locs hw => ?_)
            have hq := hq σ9 eσ9
            exact rtV hE hr hlk hw hq dX11_effect_194
          · have hq := hq.1 c13
            refine lv_aload_n hE.1 hE.2.1 dX11_effect_178 rfl (lv_at hl 1 rfl) ?_
            refine mgf_X11_31 hE hw dX11_effect_179 ?_
            refine lv_iload_n hE.1 hE.2.1 dX11_effect_182 rfl (lv_at hl 2 rfl) ?_
            obtain ⟨hi14, hq⟩ := hq
            refine mal_8 hE hw hi14 dX11_effect_183 ?_
            refine lv_goto (tgt := 191) hE.1 hE.2.1 dX11_effect_184 (by decide) ?_
            refine mpf_X11_218 hE hw dX11_effect_191 (fun σ10 eσ10 H locs hw => ?_)
            have hq := hq σ10 eσ10
            exact rtV hE hr hlk hw hq dX11_effect_194
set_option maxRecDepth 20000 in
set_option maxHeartbeats 4000000 in
theorem c_X11_effect {G : GG} (hJ : gJ 27 G) (l : Launch) (a1 : Int32) (σ : S9) (Φ : S9 → Prop) (hq : wp_X11_effect a1 σ Φ) : CV mwl 27 G l yX11_effect cX11_effect 3 rm_X11_effect [.ref (gAd G 0), .int a1] σ Φ := by
  refine CV.intro (by decide) (Nat.le_of_ble_eq_true rfl) hJ ?_
  intro p e s m args below meth c ls hE hml hr hlk hw hl
  have hl : lv_has ls 3 [(0, .ref (gAd G 0)), (1, .int a1)] := hl
  unfold wp_X11_effect at hq
  refine lv_aload_n hE.1 hE.2.1 dX11_effect_0 rfl (lv_at hl 0 rfl) ?_
  refine mgf_X11_242 hE hw dX11_effect_1 ?_
  refine lv_if_le (tgt := 21) hE.1 hE.2.1 dX11_effect_4 (by decide) (fun c1 => ?_) (fun c1 => ?_)
  · have hq := hq.1 c1
    refine lv_iconst (v := (0 : Int32)) hE.1 hE.2.1 dX11_effect_21 (by decide) ?_
    exact tb_X11_effect_b22 hE hml hr hlk  hq hw (lv_sub hl [0, 1] rfl)
  · have hq := hq.2 c1
    refine lv_aload_n hE.1 hE.2.1 dX11_effect_7 rfl (lv_at hl 0 rfl) ?_
    refine mgf_X11_86 hE hw dX11_effect_8 ?_
    refine lv_aload_n hE.1 hE.2.1 dX11_effect_11 rfl (lv_at hl 0 rfl) ?_
    refine mgf_X11_242 hE hw dX11_effect_12 ?_
    refine lv_iconst (v := (1 : Int32)) hE.1 hE.2.1 dX11_effect_15 (by decide) ?_
    refine lv_isub hE.1 hE.2.1 dX11_effect_16 ?_
    obtain ⟨hi2, hq⟩ := hq
    refine mal_26 hE hw hi2 dX11_effect_17 ?_
    refine lv_goto (tgt := 22) hE.1 hE.2.1 dX11_effect_18 (by decide) ?_
    exact tb_X11_effect_b22 hE hml hr hlk  hq hw (lv_sub hl [0, 1] rfl)
/-! QueueBenchModel.run(I)I -/
abbrev rm_X11_run : Room := { frames := 3, cells := 0, slots := 0, locals := 67 }
def bd_X11_run_b31 (K31 : Int32 → Int32 → S9 → Prop) (Φ : Int32 → S9 → Prop) (a1 : Int32) (a2 : Int32) (σ : S9) : Prop := (a1 ≤ a2 → ∀ σ1 : S9, σ1 = sF σ 19 ((σ.1 19) + a2) → Φ a2 σ1) ∧ (¬ a1 ≤ a2 → ((σ.1 18) = 0 → vp_in (σ.1 17) 1200 ∧ ((σ.2.1 6 ((σ.1 17)).toNatClampNeg) = (13 : Int32) → ∀ σ3 : S9, σ3 = sF σ 19 ((σ.1 19) + a2) → Φ a2 σ3) ∧ (¬ (σ.2.1 6 ((σ.1 17)).toNatClampNeg) = (13 : Int32) → wp_X11_workOut (σ.1 17) σ (fun r5 σ4 => ∀ σ5 : S9, σ5 = sF σ4 18 r5 → ((σ5.1 18) = 0 → ∀ σ6 : S9, σ6 = sF σ5 23 (σ5.1 24) → wp_X11_effect (σ6.1 17) σ6 (fun σ7 => wp_X11_settle σ7 (fun σ8 => ∀ x7 : Int32, x7 = a2 + 1 → K31 a1 x7 σ8))) ∧ (¬ (σ5.1 18) = 0 → K31 a1 a2 σ5)))) ∧ (¬ (σ.1 18) = 0 → ∀ σ2 : S9, σ2 = sF σ 19 ((σ.1 19) + a2) → Φ a2 σ2))
def lp_X11_run_b31  (Φ : Int32 → S9 → Prop) : Nat → Int32 → Int32 → S9 → Prop
  | 0 => fun _ _ _ => False
  | n + 1 => bd_X11_run_b31  (lp_X11_run_b31  Φ n) Φ
def wp_X11_run_b17  (Φ : Int32 → S9 → Prop) (a1 : Int32) (t0 : Int32) (σ : S9) : Prop := wp_X11_goes t0 (σ.1 16) σ (fun r1 σ1 => (r1 = 0 → Φ (0 : Int32) σ1) ∧ (¬ r1 = 0 → ∀ x3 : Int32, x3 = (0 : Int32) → ∃ n : Nat, lp_X11_run_b31  Φ n a1 x3 σ1))
def wp_X11_run_b16  (Φ : Int32 → S9 → Prop) (a1 : Int32) (σ : S9) : Prop := wp_X11_run_b17  Φ a1 (0 : Int32) σ
def wp_X11_run (a1 : Int32) (σ : S9) (Φ : Int32 → S9 → Prop) : Prop := (a1 < 0 → wp_X11_run_b16  Φ a1 σ) ∧ (¬ a1 < 0 → ((1000 : Int32) < a1 → wp_X11_run_b16  Φ a1 σ) ∧ (¬ (1000 : Int32) < a1 → wp_X11_run_b17  Φ a1 (1 : Int32) σ))
theorem dX11_run_0 : decode cX11_run 0 = .ok (.aload_n 0, 1) := by decide +kernel
theorem dX11_run_1 : decode cX11_run 1 = .ok (.iload_n 1, 1) := by decide +kernel
theorem dX11_run_2 : decode cX11_run 2 = .ok (.ifCond .lt 14, 3) := by decide +kernel
theorem dX11_run_5 : decode cX11_run 5 = .ok (.iload_n 1, 1) := by decide +kernel
theorem dX11_run_6 : decode cX11_run 6 = .ok (.sipush 1000, 3) := by decide +kernel
theorem dX11_run_9 : decode cX11_run 9 = .ok (.if_icmp .gt 7, 3) := by decide +kernel
theorem dX11_run_12 : decode cX11_run 12 = .ok (.iconst 1, 1) := by decide +kernel
theorem dX11_run_13 : decode cX11_run 13 = .ok (.goto 4, 3) := by decide +kernel
theorem dX11_run_16 : decode cX11_run 16 = .ok (.iconst 0, 1) := by decide +kernel
theorem dX11_run_17 : decode cX11_run 17 = .ok (.aload_n 0, 1) := by decide +kernel
theorem dX11_run_18 : decode cX11_run 18 = .ok (.getfield 202, 3) := by decide +kernel
theorem dX11_run_21 : decode cX11_run 21 = .ok (.invokevirtual 100, 3) := by decide +kernel
theorem dX11_run_24 : decode cX11_run 24 = .ok (.ifCond .ne 5, 3) := by decide +kernel
theorem dX11_run_27 : decode cX11_run 27 = .ok (.iconst 0, 1) := by decide +kernel
theorem dX11_run_28 : decode cX11_run 28 = .ok (.ireturn, 1) := by decide +kernel
theorem dX11_run_29 : decode cX11_run 29 = .ok (.iconst 0, 1) := by decide +kernel
theorem dX11_run_30 : decode cX11_run 30 = .ok (.istore_n 2, 1) := by decide +kernel
theorem dX11_run_31 : decode cX11_run 31 = .ok (.iload_n 2, 1) := by decide +kernel
theorem dX11_run_32 : decode cX11_run 32 = .ok (.iload_n 1, 1) := by decide +kernel
theorem dX11_run_33 : decode cX11_run 33 = .ok (.if_icmp .ge 69, 3) := by decide +kernel
theorem dX11_run_36 : decode cX11_run 36 = .ok (.aload_n 0, 1) := by decide +kernel
theorem dX11_run_37 : decode cX11_run 37 = .ok (.getfield 224, 3) := by decide +kernel
theorem dX11_run_40 : decode cX11_run 40 = .ok (.ifCond .ne 62, 3) := by decide +kernel
theorem dX11_run_43 : decode cX11_run 43 = .ok (.aload_n 0, 1) := by decide +kernel
theorem dX11_run_44 : decode cX11_run 44 = .ok (.getfield 28, 3) := by decide +kernel
theorem dX11_run_47 : decode cX11_run 47 = .ok (.aload_n 0, 1) := by decide +kernel
theorem dX11_run_48 : decode cX11_run 48 = .ok (.getfield 218, 3) := by decide +kernel
theorem dX11_run_51 : decode cX11_run 51 = .ok (.iaload, 1) := by decide +kernel
theorem dX11_run_52 : decode cX11_run 52 = .ok (.bipush 13, 2) := by decide +kernel
theorem dX11_run_54 : decode cX11_run 54 = .ok (.if_icmp .eq 48, 3) := by decide +kernel
theorem dX11_run_57 : decode cX11_run 57 = .ok (.aload_n 0, 1) := by decide +kernel
theorem dX11_run_58 : decode cX11_run 58 = .ok (.aload_n 0, 1) := by decide +kernel
theorem dX11_run_59 : decode cX11_run 59 = .ok (.aload_n 0, 1) := by decide +kernel
theorem dX11_run_60 : decode cX11_run 60 = .ok (.getfield 218, 3) := by decide +kernel
theorem dX11_run_63 : decode cX11_run 63 = .ok (.invokevirtual 255, 3) := by decide +kernel
theorem dX11_run_66 : decode cX11_run 66 = .ok (.putfield 224, 3) := by decide +kernel
theorem dX11_run_69 : decode cX11_run 69 = .ok (.aload_n 0, 1) := by decide +kernel
theorem dX11_run_70 : decode cX11_run 70 = .ok (.getfield 224, 3) := by decide +kernel
theorem dX11_run_73 : decode cX11_run 73 = .ok (.ifCond .ne (-42), 3) := by decide +kernel
theorem dX11_run_76 : decode cX11_run 76 = .ok (.aload_n 0, 1) := by decide +kernel
theorem dX11_run_77 : decode cX11_run 77 = .ok (.aload_n 0, 1) := by decide +kernel
theorem dX11_run_78 : decode cX11_run 78 = .ok (.getfield 239, 3) := by decide +kernel
theorem dX11_run_81 : decode cX11_run 81 = .ok (.putfield 233, 3) := by decide +kernel
theorem dX11_run_84 : decode cX11_run 84 = .ok (.aload_n 0, 1) := by decide +kernel
theorem dX11_run_85 : decode cX11_run 85 = .ok (.aload_n 0, 1) := by decide +kernel
theorem dX11_run_86 : decode cX11_run 86 = .ok (.getfield 218, 3) := by decide +kernel
theorem dX11_run_89 : decode cX11_run 89 = .ok (.invokevirtual 258, 3) := by decide +kernel
theorem dX11_run_92 : decode cX11_run 92 = .ok (.aload_n 0, 1) := by decide +kernel
theorem dX11_run_93 : decode cX11_run 93 = .ok (.invokevirtual 236, 3) := by decide +kernel
theorem dX11_run_96 : decode cX11_run 96 = .ok (.iinc 2 1, 3) := by decide +kernel
theorem dX11_run_99 : decode cX11_run 99 = .ok (.goto (-68), 3) := by decide +kernel
theorem dX11_run_102 : decode cX11_run 102 = .ok (.aload_n 0, 1) := by decide +kernel
theorem dX11_run_103 : decode cX11_run 103 = .ok (.aload_n 0, 1) := by decide +kernel
theorem dX11_run_104 : decode cX11_run 104 = .ok (.getfield 227, 3) := by decide +kernel
theorem dX11_run_107 : decode cX11_run 107 = .ok (.iload_n 2, 1) := by decide +kernel
theorem dX11_run_108 : decode cX11_run 108 = .ok (.iadd, 1) := by decide +kernel
theorem dX11_run_109 : decode cX11_run 109 = .ok (.putfield 227, 3) := by decide +kernel
theorem dX11_run_112 : decode cX11_run 112 = .ok (.iload_n 2, 1) := by decide +kernel
theorem dX11_run_113 : decode cX11_run 113 = .ok (.ireturn, 1) := by decide +kernel
set_option maxRecDepth 20000 in
set_option maxHeartbeats 4000000 in
theorem tb_X11_run_b31 {p : Program} {l : Launch} {e : Env} {s : State} {m : MethodId} {args : Array Value} {below : List Frame} {meth : Method} {c : Code} {G : GG} {Φ : Int32 → S9 → Prop} {K31 : Int32 → Int32 → S9 → Prop} (hE : Ev 27 G p s m args c cX11_run RX11) (hml : c.maxLocals = 3) (hr : meth.sig.returnType = (some .int)) (hlk : meth.locks = false) (hK31 : ∀ (a1 : Int32) (a2 : Int32) (σ : S9) (H : Heap) (locs : List Loc) (ls : Array Slot), K31 a1 a2 σ → Pic mwl 27 G σ s.heap H locs → lv_has ls 3 [(0, .ref (gAd G 0)), (1, .int a1), (2, .int a2)] → W p l e rm_X11_run s m args below meth c H locs 0 0 (QI mwl 27 G below args s Φ) (F0 m 31 ls [])) {a1 : Int32} {a2 : Int32} {σ : S9} {H : Heap} {locs : List Loc} {ls : Array Slot} (hq : bd_X11_run_b31 K31 Φ a1 a2 σ) (hw : Pic mwl 27 G σ s.heap H locs) (hl : lv_has ls 3 [(0, .ref (gAd G 0)), (1, .int a1), (2, .int a2)]) : W p l e rm_X11_run s m args below meth c H locs 0 0 (QI mwl 27 G below args s Φ) (F0 m 31 ls []) := by
  unfold bd_X11_run_b31 at hq
  refine lv_iload_n hE.1 hE.2.1 dX11_run_31 rfl (lv_at hl 2 rfl) ?_
  refine lv_iload_n hE.1 hE.2.1 dX11_run_32 rfl (lv_at hl 1 rfl) ?_
  refine lv_icmp_ge (tgt := 102) hE.1 hE.2.1 dX11_run_33 (by decide) (fun c1 => ?_) (fun c1 => ?_)
  · have hq := hq.1 c1
    refine lv_aload_n hE.1 hE.2.1 dX11_run_102 rfl (lv_at hl 0 rfl) ?_
    refine lv_aload_n hE.1 hE.2.1 dX11_run_103 rfl (lv_at hl 0 rfl) ?_
    refine mgf_X11_227 hE hw dX11_run_104 ?_
    refine lv_iload_n hE.1 hE.2.1 dX11_run_107 rfl (lv_at hl 2 rfl) ?_
    refine lv_iadd hE.1 hE.2.1 dX11_run_108 ?_
    refine mpf_X11_227 hE hw dX11_run_109 (fun σ1 eσ1 H locs hw => ?_)
    have hq := hq σ1 eσ1
    refine lv_iload_n hE.1 hE.2.1 dX11_run_112 rfl (lv_at hl 2 rfl) ?_
    exact rtI hE hr hlk hw hq dX11_run_113
  · have hq := hq.2 c1
    refine lv_aload_n hE.1 hE.2.1 dX11_run_36 rfl (lv_at hl 0 rfl) ?_
    refine mgf_X11_224 hE hw dX11_run_37 ?_
    refine lv_if_ne (tgt := 102) hE.1 hE.2.1 dX11_run_40 (by decide) (fun c2 => ?_) (fun c2 => ?_)
    · have hq := hq.2 c2
      refine lv_aload_n hE.1 hE.2.1 dX11_run_102 rfl (lv_at hl 0 rfl) ?_
      refine lv_aload_n hE.1 hE.2.1 dX11_run_103 rfl (lv_at hl 0 rfl) ?_
      refine mgf_X11_227 hE hw dX11_run_104 ?_
      refine lv_iload_n hE.1 hE.2.1 dX11_run_107 rfl (lv_at hl 2 rfl) ?_
      refine lv_iadd hE.1 hE.2.1 dX11_run_108 ?_
      refine mpf_X11_227 hE hw dX11_run_109 (fun σ2 eσ2 H locs hw => ?_)
      have hq := hq σ2 eσ2
      refine lv_iload_n hE.1 hE.2.1 dX11_run_112 rfl (lv_at hl 2 rfl) ?_
      exact rtI hE hr hlk hw hq dX11_run_113
    · have hq := hq.1 c2
      refine lv_aload_n hE.1 hE.2.1 dX11_run_43 rfl (lv_at hl 0 rfl) ?_
      refine mgf_X11_28 hE hw dX11_run_44 ?_
      refine lv_aload_n hE.1 hE.2.1 dX11_run_47 rfl (lv_at hl 0 rfl) ?_
      refine mgf_X11_218 hE hw dX11_run_48 ?_
      obtain ⟨hi3, hq⟩ := hq
      refine mal_7 hE hw hi3 dX11_run_51 ?_
      refine lv_bipush (v := (13 : Int32)) hE.1 hE.2.1 dX11_run_52 (by decide) ?_
      refine lv_icmp_eq (tgt := 102) hE.1 hE.2.1 dX11_run_54 (by decide) (fun c4 => ?_) (fun c4 => ?_)
      · have hq := hq.1 c4
        refine lv_aload_n hE.1 hE.2.1 dX11_run_102 rfl (lv_at hl 0 rfl) ?_
        refine lv_aload_n hE.1 hE.2.1 dX11_run_103 rfl (lv_at hl 0 rfl) ?_
        refine mgf_X11_227 hE hw dX11_run_104 ?_
        refine lv_iload_n hE.1 hE.2.1 dX11_run_107 rfl (lv_at hl 2 rfl) ?_
        refine lv_iadd hE.1 hE.2.1 dX11_run_108 ?_
        refine mpf_X11_227 hE hw dX11_run_109 (fun σ3 eσ3 H locs hw => ?_)
        have hq := hq σ3 eσ3
        refine lv_iload_n hE.1 hE.2.1 dX11_run_112 rfl (lv_at hl 2 rfl) ?_
        exact rtI hE hr hlk hw hq dX11_run_113
      · have hq := hq.2 c4
        refine lv_aload_n hE.1 hE.2.1 dX11_run_57 rfl (lv_at hl 0 rfl) ?_
        refine lv_aload_n hE.1 hE.2.1 dX11_run_58 rfl (lv_at hl 0 rfl) ?_
        refine lv_aload_n hE.1 hE.2.1 dX11_run_59 rfl (lv_at hl 0 rfl) ?_
        refine mgf_X11_218 hE hw dX11_run_60 ?_
        refine clVi (rest := [.ref (gAd G 0)]) (As := [.int (σ.1 17)]) hE hml hl.1 hw (c_X11_workOut hE.2.2.2.2.2 l _ _ _ hq) mu143 mu144 mu145 mu146 mu3 rfl (k := 1) (by decide +kernel) (by decide) (ci := 11) rfl (q0 := 0) rfl rfl rfl (Nat.le_of_ble_eq_true rfl) dX11_run_63 (by decide) (fun r5 σ4 hq H locs hw => ?_)
        refine mpf_X11_224 hE hw dX11_run_66 (fun σ5 eσ5 H locs hw => ?_)
        have hq := hq σ5 eσ5
        refine lv_aload_n hE.1 hE.2.1 dX11_run_69 rfl (lv_at hl 0 rfl) ?_
        refine mgf_X11_224 hE hw dX11_run_70 ?_
        refine lv_if_ne (tgt := 31) hE.1 hE.2.1 dX11_run_73 (by decide) (fun c6 => ?_) (fun c6 => ?_)
        · have hq := hq.2 c6
          exact hK31 _ _ _ _ _ _ hq hw (lv_sub hl [0, 1, 2] rfl)
        · have hq := hq.1 c6
          refine lv_aload_n hE.1 hE.2.1 dX11_run_76 rfl (lv_at hl 0 rfl) ?_
          refine lv_aload_n hE.1 hE.2.1 dX11_run_77 rfl (lv_at hl 0 rfl) ?_
          refine mgf_X11_239 hE hw dX11_run_78 ?_
          refine mpf_X11_233 hE hw dX11_run_81 (fun σ6 eσ6 H locs hw => ?_)
          have hq := hq σ6 eσ6
          refine lv_aload_n hE.1 hE.2.1 dX11_run_84 rfl (lv_at hl 0 rfl) ?_
          refine lv_aload_n hE.1 hE.2.1 dX11_run_85 rfl (lv_at hl 0 rfl) ?_
          refine mgf_X11_218 hE hw dX11_run_86 ?_
          refine clVv (rest := []) (As := [.int (σ6.1 17)]) hE hml hl.1 hw (c_X11_effect hE.2.2.2.2.2 l _ _ _ hq) mu148 mu149 mu150 mu151 mu3 rfl (k := 1) (by decide +kernel) (by decide) (ci := 11) rfl (q0 := 0) rfl rfl rfl (Nat.le_of_ble_eq_true rfl) dX11_run_89 (by decide) (fun σ7 hq H locs hw => ?_)
          refine lv_aload_n hE.1 hE.2.1 dX11_run_92 rfl (lv_at hl 0 rfl) ?_
          refine clVv (rest := []) (As := []) hE hml hl.1 hw (c_X11_settle hE.2.2.2.2.2 l _ _ hq) mu125 mu126 mu127 mu128 mu3 rfl (k := 0) (by decide +kernel) (by decide) (ci := 11) rfl (q0 := 0) rfl rfl rfl (Nat.le_of_ble_eq_true rfl) dX11_run_93 (by decide) (fun σ8 hq H locs hw => ?_)
          obtain ⟨x7, ex7⟩ : ∃ y : Int32, y = a2 + 1 := ⟨_, rfl⟩
          have hq := hq x7 ex7
          refine lv_iinc (v := x7) (lv' := [(2, .int x7), (0, .ref (gAd G 0)), (1, .int a1)]) hE.1 hE.2.1 dX11_run_96 hl (k := 2) rfl (by rw [ex7]; rfl) (by decide) rfl (fun ls hl => ?_)
          refine lv_goto (tgt := 31) hE.1 hE.2.1 dX11_run_99 (by decide) ?_
          exact hK31 _ _ _ _ _ _ hq hw (lv_sub hl [1, 2, 0] rfl)
theorem tl_X11_run_b31 {p : Program} {l : Launch} {e : Env} {s : State} {m : MethodId} {args : Array Value} {below : List Frame} {meth : Method} {c : Code} {G : GG} {Φ : Int32 → S9 → Prop}  (hE : Ev 27 G p s m args c cX11_run RX11) (hml : c.maxLocals = 3) (hr : meth.sig.returnType = (some .int)) (hlk : meth.locks = false)  : ∀ (n : Nat) (a1 : Int32) (a2 : Int32) (σ : S9) (H : Heap) (locs : List Loc) (ls : Array Slot), lp_X11_run_b31  Φ n a1 a2 σ → Pic mwl 27 G σ s.heap H locs → lv_has ls 3 [(0, .ref (gAd G 0)), (1, .int a1), (2, .int a2)] → W p l e rm_X11_run s m args below meth c H locs 0 0 (QI mwl 27 G below args s Φ) (F0 m 31 ls []) := by
  intro n
  induction n with
  | zero => intro _ _ _ _ _ _ hq; exact hq.elim
  | succ n ih => intro _ _ _ _ _ _ hq hw hl; exact tb_X11_run_b31 hE hml hr hlk  ih hq hw hl
set_option maxRecDepth 20000 in
set_option maxHeartbeats 4000000 in
theorem tb_X11_run_b17 {p : Program} {l : Launch} {e : Env} {s : State} {m : MethodId} {args : Array Value} {below : List Frame} {meth : Method} {c : Code} {G : GG} {Φ : Int32 → S9 → Prop}  (hE : Ev 27 G p s m args c cX11_run RX11) (hml : c.maxLocals = 3) (hr : meth.sig.returnType = (some .int)) (hlk : meth.locks = false)  {a1 : Int32} {t0 : Int32} {σ : S9} {H : Heap} {locs : List Loc} {ls : Array Slot} (hq : wp_X11_run_b17  Φ a1 t0 σ) (hw : Pic mwl 27 G σ s.heap H locs) (hl : lv_has ls 3 [(0, .ref (gAd G 0)), (1, .int a1)]) : W p l e rm_X11_run s m args below meth c H locs 0 0 (QI mwl 27 G below args s Φ) (F0 m 17 ls [.int t0, .ref (gAd G 0)]) := by
  unfold wp_X11_run_b17 at hq
  refine lv_aload_n hE.1 hE.2.1 dX11_run_17 rfl (lv_at hl 0 rfl) ?_
  refine mgf_X11_202 hE hw dX11_run_18 ?_
  refine clVi (rest := []) (As := [.int t0, .int (σ.1 16)]) hE hml hl.1 hw (c_X11_goes hE.2.2.2.2.2 l _ _ _ _ hq) mu6 mu7 mu8 mu9 mu3 rfl (k := 2) (by decide +kernel) (by decide) (ci := 11) rfl (q0 := 0) rfl rfl rfl (Nat.le_of_ble_eq_true rfl) dX11_run_21 (by decide) (fun r1 σ1 hq H locs hw => ?_)
  refine lv_if_ne (tgt := 29) hE.1 hE.2.1 dX11_run_24 (by decide) (fun c2 => ?_) (fun c2 => ?_)
  · have hq := hq.2 c2
    refine lv_iconst (v := (0 : Int32)) hE.1 hE.2.1 dX11_run_29 (by decide) ?_
    refine lv_topi (fun x3 ex3 => ?_)
    have hq := hq x3 ex3
    refine lv_istore_n (lv' := [(2, .int x3), (0, .ref (gAd G 0)), (1, .int a1)]) hE.1 hE.2.1 dX11_run_30 rfl hl (by decide) rfl (fun ls hl => ?_)
    obtain ⟨nn, hq⟩ := hq
    exact tl_X11_run_b31 hE hml hr hlk  nn _ _ _ _ _ _ hq hw (lv_sub hl [1, 2, 0] rfl)
  · have hq := hq.1 c2
    refine lv_iconst (v := (0 : Int32)) hE.1 hE.2.1 dX11_run_27 (by decide) ?_
    exact rtI hE hr hlk hw hq dX11_run_28
set_option maxRecDepth 20000 in
set_option maxHeartbeats 4000000 in
theorem tb_X11_run_b16 {p : Program} {l : Launch} {e : Env} {s : State} {m : MethodId} {args : Array Value} {below : List Frame} {meth : Method} {c : Code} {G : GG} {Φ : Int32 → S9 → Prop}  (hE : Ev 27 G p s m args c cX11_run RX11) (hml : c.maxLocals = 3) (hr : meth.sig.returnType = (some .int)) (hlk : meth.locks = false)  {a1 : Int32} {σ : S9} {H : Heap} {locs : List Loc} {ls : Array Slot} (hq : wp_X11_run_b16  Φ a1 σ) (hw : Pic mwl 27 G σ s.heap H locs) (hl : lv_has ls 3 [(0, .ref (gAd G 0)), (1, .int a1)]) : W p l e rm_X11_run s m args below meth c H locs 0 0 (QI mwl 27 G below args s Φ) (F0 m 16 ls [.ref (gAd G 0)]) := by
  unfold wp_X11_run_b16 at hq
  refine lv_iconst (v := (0 : Int32)) hE.1 hE.2.1 dX11_run_16 (by decide) ?_
  exact tb_X11_run_b17 hE hml hr hlk  hq hw (lv_sub hl [0, 1] rfl)
set_option maxRecDepth 20000 in
set_option maxHeartbeats 4000000 in
theorem c_X11_run {G : GG} (hJ : gJ 27 G) (l : Launch) (a1 : Int32) (σ : S9) (Φ : Int32 → S9 → Prop) (hq : wp_X11_run a1 σ Φ) : CI mwl 27 G l yX11_run cX11_run 3 (some .int) rm_X11_run [.ref (gAd G 0), .int a1] σ Φ := by
  refine CI.intro (by decide) (Nat.le_of_ble_eq_true rfl) hJ ?_
  intro p e s m args below meth c ls hE hml hr hlk hw hl
  have hl : lv_has ls 3 [(0, .ref (gAd G 0)), (1, .int a1)] := hl
  unfold wp_X11_run at hq
  refine lv_aload_n hE.1 hE.2.1 dX11_run_0 rfl (lv_at hl 0 rfl) ?_
  refine lv_iload_n hE.1 hE.2.1 dX11_run_1 rfl (lv_at hl 1 rfl) ?_
  refine lv_if_lt (tgt := 16) hE.1 hE.2.1 dX11_run_2 (by decide) (fun c1 => ?_) (fun c1 => ?_)
  · have hq := hq.1 c1
    exact tb_X11_run_b16 hE hml hr hlk  hq hw (lv_sub hl [0, 1] rfl)
  · have hq := hq.2 c1
    refine lv_iload_n hE.1 hE.2.1 dX11_run_5 rfl (lv_at hl 1 rfl) ?_
    refine lv_sipush (v := (1000 : Int32)) hE.1 hE.2.1 dX11_run_6 (by decide) ?_
    refine lv_icmp_gt (tgt := 16) hE.1 hE.2.1 dX11_run_9 (by decide) (fun c2 => ?_) (fun c2 => ?_)
    · have hq := hq.1 c2
      exact tb_X11_run_b16 hE hml hr hlk  hq hw (lv_sub hl [0, 1] rfl)
    · have hq := hq.2 c2
      refine lv_iconst (v := (1 : Int32)) hE.1 hE.2.1 dX11_run_12 (by decide) ?_
      refine lv_goto (tgt := 17) hE.1 hE.2.1 dX11_run_13 (by decide) ?_
      exact tb_X11_run_b17 hE hml hr hlk  hq hw (lv_sub hl [0, 1] rfl)
/-! QueueBenchModel.state(I)I -/
abbrev rm_X11_state : Room := { frames := 1, cells := 0, slots := 0, locals := 22 }
def wp_X11_state_b46  (Φ : Int32 → S9 → Prop) (a1 : Int32) (t0 : Int32) (σ : S9) : Prop := (a1 = (0 : Int32) → ((σ.1 18) ≤ 0 → (t0 = 0 → Φ (0 : Int32) σ) ∧ (¬ t0 = 0 → Φ (1 : Int32) σ)) ∧ (¬ (σ.1 18) ≤ 0 → Φ (σ.1 18) σ)) ∧ (¬ a1 = (0 : Int32) → (a1 = (1 : Int32) → Φ (σ.1 19) σ) ∧ (¬ a1 = (1 : Int32) → (a1 = (2 : Int32) → Φ (σ.1 21) σ) ∧ (¬ a1 = (2 : Int32) → (a1 = (3 : Int32) → Φ (σ.1 23) σ) ∧ (¬ a1 = (3 : Int32) → (t0 = 0 → vp_in (σ.1 17) 1200 ∧ Φ (σ.2.1 10 ((σ.1 17)).toNatClampNeg) σ) ∧ (¬ t0 = 0 → Φ (-1 : Int32) σ)))))
def wp_X11_state_b15  (Φ : Int32 → S9 → Prop) (a1 : Int32) (t0 : Int32) (σ : S9) : Prop := wp_X11_goes t0 (σ.1 16) σ (fun r1 σ1 => (r1 = 0 → Φ (0 : Int32) σ1) ∧ (¬ r1 = 0 → vp_in (σ1.1 17) 1200 ∧ ((σ1.2.1 6 ((σ1.1 17)).toNatClampNeg) = (13 : Int32) → wp_X11_state_b46  Φ a1 (1 : Int32) σ1) ∧ (¬ (σ1.2.1 6 ((σ1.1 17)).toNatClampNeg) = (13 : Int32) → wp_X11_state_b46  Φ a1 (0 : Int32) σ1)))
def wp_X11_state_b14  (Φ : Int32 → S9 → Prop) (a1 : Int32) (σ : S9) : Prop := wp_X11_state_b15  Φ a1 (0 : Int32) σ
def wp_X11_state (a1 : Int32) (σ : S9) (Φ : Int32 → S9 → Prop) : Prop := (a1 < 0 → wp_X11_state_b14  Φ a1 σ) ∧ (¬ a1 < 0 → ((4 : Int32) < a1 → wp_X11_state_b14  Φ a1 σ) ∧ (¬ (4 : Int32) < a1 → wp_X11_state_b15  Φ a1 (1 : Int32) σ))
theorem dX11_state_0 : decode cX11_state 0 = .ok (.aload_n 0, 1) := by decide +kernel
theorem dX11_state_1 : decode cX11_state 1 = .ok (.iload_n 1, 1) := by decide +kernel
theorem dX11_state_2 : decode cX11_state 2 = .ok (.ifCond .lt 12, 3) := by decide +kernel
theorem dX11_state_5 : decode cX11_state 5 = .ok (.iload_n 1, 1) := by decide +kernel
theorem dX11_state_6 : decode cX11_state 6 = .ok (.iconst 4, 1) := by decide +kernel
theorem dX11_state_7 : decode cX11_state 7 = .ok (.if_icmp .gt 7, 3) := by decide +kernel
theorem dX11_state_10 : decode cX11_state 10 = .ok (.iconst 1, 1) := by decide +kernel
theorem dX11_state_11 : decode cX11_state 11 = .ok (.goto 4, 3) := by decide +kernel
theorem dX11_state_14 : decode cX11_state 14 = .ok (.iconst 0, 1) := by decide +kernel
theorem dX11_state_15 : decode cX11_state 15 = .ok (.aload_n 0, 1) := by decide +kernel
theorem dX11_state_16 : decode cX11_state 16 = .ok (.getfield 202, 3) := by decide +kernel
theorem dX11_state_19 : decode cX11_state 19 = .ok (.invokevirtual 100, 3) := by decide +kernel
theorem dX11_state_22 : decode cX11_state 22 = .ok (.ifCond .ne 5, 3) := by decide +kernel
theorem dX11_state_25 : decode cX11_state 25 = .ok (.iconst 0, 1) := by decide +kernel
theorem dX11_state_26 : decode cX11_state 26 = .ok (.ireturn, 1) := by decide +kernel
theorem dX11_state_27 : decode cX11_state 27 = .ok (.aload_n 0, 1) := by decide +kernel
theorem dX11_state_28 : decode cX11_state 28 = .ok (.getfield 28, 3) := by decide +kernel
theorem dX11_state_31 : decode cX11_state 31 = .ok (.aload_n 0, 1) := by decide +kernel
theorem dX11_state_32 : decode cX11_state 32 = .ok (.getfield 218, 3) := by decide +kernel
theorem dX11_state_35 : decode cX11_state 35 = .ok (.iaload, 1) := by decide +kernel
theorem dX11_state_36 : decode cX11_state 36 = .ok (.bipush 13, 2) := by decide +kernel
theorem dX11_state_38 : decode cX11_state 38 = .ok (.if_icmp .ne 7, 3) := by decide +kernel
theorem dX11_state_41 : decode cX11_state 41 = .ok (.iconst 1, 1) := by decide +kernel
theorem dX11_state_42 : decode cX11_state 42 = .ok (.goto 4, 3) := by decide +kernel
theorem dX11_state_45 : decode cX11_state 45 = .ok (.iconst 0, 1) := by decide +kernel
theorem dX11_state_46 : decode cX11_state 46 = .ok (.istore_n 2, 1) := by decide +kernel
theorem dX11_state_47 : decode cX11_state 47 = .ok (.iload_n 1, 1) := by decide +kernel
theorem dX11_state_48 : decode cX11_state 48 = .ok (.tableswitch 71 0 3 #[32, 56, 61, 66], 32) := by decide +kernel
theorem dX11_state_80 : decode cX11_state 80 = .ok (.aload_n 0, 1) := by decide +kernel
theorem dX11_state_81 : decode cX11_state 81 = .ok (.getfield 224, 3) := by decide +kernel
theorem dX11_state_84 : decode cX11_state 84 = .ok (.ifCond .le 10, 3) := by decide +kernel
theorem dX11_state_87 : decode cX11_state 87 = .ok (.aload_n 0, 1) := by decide +kernel
theorem dX11_state_88 : decode cX11_state 88 = .ok (.getfield 224, 3) := by decide +kernel
theorem dX11_state_91 : decode cX11_state 91 = .ok (.goto 12, 3) := by decide +kernel
theorem dX11_state_94 : decode cX11_state 94 = .ok (.iload_n 2, 1) := by decide +kernel
theorem dX11_state_95 : decode cX11_state 95 = .ok (.ifCond .eq 7, 3) := by decide +kernel
theorem dX11_state_98 : decode cX11_state 98 = .ok (.iconst 1, 1) := by decide +kernel
theorem dX11_state_99 : decode cX11_state 99 = .ok (.goto 4, 3) := by decide +kernel
theorem dX11_state_102 : decode cX11_state 102 = .ok (.iconst 0, 1) := by decide +kernel
theorem dX11_state_103 : decode cX11_state 103 = .ok (.ireturn, 1) := by decide +kernel
theorem dX11_state_104 : decode cX11_state 104 = .ok (.aload_n 0, 1) := by decide +kernel
theorem dX11_state_105 : decode cX11_state 105 = .ok (.getfield 227, 3) := by decide +kernel
theorem dX11_state_108 : decode cX11_state 108 = .ok (.ireturn, 1) := by decide +kernel
theorem dX11_state_109 : decode cX11_state 109 = .ok (.aload_n 0, 1) := by decide +kernel
theorem dX11_state_110 : decode cX11_state 110 = .ok (.getfield 230, 3) := by decide +kernel
theorem dX11_state_113 : decode cX11_state 113 = .ok (.ireturn, 1) := by decide +kernel
theorem dX11_state_114 : decode cX11_state 114 = .ok (.aload_n 0, 1) := by decide +kernel
theorem dX11_state_115 : decode cX11_state 115 = .ok (.getfield 233, 3) := by decide +kernel
theorem dX11_state_118 : decode cX11_state 118 = .ok (.ireturn, 1) := by decide +kernel
theorem dX11_state_119 : decode cX11_state 119 = .ok (.iload_n 2, 1) := by decide +kernel
theorem dX11_state_120 : decode cX11_state 120 = .ok (.ifCond .eq 7, 3) := by decide +kernel
theorem dX11_state_123 : decode cX11_state 123 = .ok (.iconst (-1), 1) := by decide +kernel
theorem dX11_state_124 : decode cX11_state 124 = .ok (.goto 12, 3) := by decide +kernel
theorem dX11_state_127 : decode cX11_state 127 = .ok (.aload_n 0, 1) := by decide +kernel
theorem dX11_state_128 : decode cX11_state 128 = .ok (.getfield 40, 3) := by decide +kernel
theorem dX11_state_131 : decode cX11_state 131 = .ok (.aload_n 0, 1) := by decide +kernel
theorem dX11_state_132 : decode cX11_state 132 = .ok (.getfield 218, 3) := by decide +kernel
theorem dX11_state_135 : decode cX11_state 135 = .ok (.iaload, 1) := by decide +kernel
theorem dX11_state_136 : decode cX11_state 136 = .ok (.ireturn, 1) := by decide +kernel
set_option maxRecDepth 20000 in
set_option maxHeartbeats 4000000 in
theorem tb_X11_state_b46 {p : Program} {l : Launch} {e : Env} {s : State} {m : MethodId} {args : Array Value} {below : List Frame} {meth : Method} {c : Code} {G : GG} {Φ : Int32 → S9 → Prop}  (hE : Ev 27 G p s m args c cX11_state RX11) (hml : c.maxLocals = 3) (hr : meth.sig.returnType = (some .int)) (hlk : meth.locks = false)  {a1 : Int32} {t0 : Int32} {σ : S9} {H : Heap} {locs : List Loc} {ls : Array Slot} (hq : wp_X11_state_b46  Φ a1 t0 σ) (hw : Pic mwl 27 G σ s.heap H locs) (hl : lv_has ls 3 [(0, .ref (gAd G 0)), (1, .int a1)]) : W p l e rm_X11_state s m args below meth c H locs 0 0 (QI mwl 27 G below args s Φ) (F0 m 46 ls [.int t0]) := by
  unfold wp_X11_state_b46 at hq
  refine lv_istore_n (lv' := [(2, .int t0), (0, .ref (gAd G 0)), (1, .int a1)]) hE.1 hE.2.1 dX11_state_46 rfl hl (by decide) rfl (fun ls hl => ?_)
  refine lv_iload_n hE.1 hE.2.1 dX11_state_47 rfl (lv_at hl 2 rfl) ?_
  by_cases c1 : a1 = (0 : Int32)
  · have hq := hq.1 c1
    refine lv_tableH (off := 32) (tgt := 80) hE.1 hE.2.1 dX11_state_48 c1 (by decide) (by decide) (by decide) (by decide) ?_
    refine lv_aload_n hE.1 hE.2.1 dX11_state_80 rfl (lv_at hl 1 rfl) ?_
    refine mgf_X11_224 hE hw dX11_state_81 ?_
    refine lv_if_le (tgt := 94) hE.1 hE.2.1 dX11_state_84 (by decide) (fun c2 => ?_) (fun c2 => ?_)
    · have hq := hq.1 c2
      refine lv_iload_n hE.1 hE.2.1 dX11_state_94 rfl (lv_at hl 0 rfl) ?_
      refine lv_if_eq (tgt := 102) hE.1 hE.2.1 dX11_state_95 (by decide) (fun c3 => ?_) (fun c3 => ?_)
      · have hq := hq.1 c3
        refine lv_iconst (v := (0 : Int32)) hE.1 hE.2.1 dX11_state_102 (by decide) ?_
        exact rtI hE hr hlk hw hq dX11_state_103
      · have hq := hq.2 c3
        refine lv_iconst (v := (1 : Int32)) hE.1 hE.2.1 dX11_state_98 (by decide) ?_
        refine lv_goto (tgt := 103) hE.1 hE.2.1 dX11_state_99 (by decide) ?_
        exact rtI hE hr hlk hw hq dX11_state_103
    · have hq := hq.2 c2
      refine lv_aload_n hE.1 hE.2.1 dX11_state_87 rfl (lv_at hl 1 rfl) ?_
      refine mgf_X11_224 hE hw dX11_state_88 ?_
      refine lv_goto (tgt := 103) hE.1 hE.2.1 dX11_state_91 (by decide) ?_
      exact rtI hE hr hlk hw hq dX11_state_103
  · have hq := hq.2 c1
    by_cases c4 : a1 = (1 : Int32)
    · have hq := hq.1 c4
      refine lv_tableH (off := 56) (tgt := 104) hE.1 hE.2.1 dX11_state_48 c4 (by decide) (by decide) (by decide) (by decide) ?_
      refine lv_aload_n hE.1 hE.2.1 dX11_state_104 rfl (lv_at hl 1 rfl) ?_
      refine mgf_X11_227 hE hw dX11_state_105 ?_
      exact rtI hE hr hlk hw hq dX11_state_108
    · have hq := hq.2 c4
      by_cases c5 : a1 = (2 : Int32)
      · have hq := hq.1 c5
        refine lv_tableH (off := 61) (tgt := 109) hE.1 hE.2.1 dX11_state_48 c5 (by decide) (by decide) (by decide) (by decide) ?_
        refine lv_aload_n hE.1 hE.2.1 dX11_state_109 rfl (lv_at hl 1 rfl) ?_
        refine mgf_X11_230 hE hw dX11_state_110 ?_
        exact rtI hE hr hlk hw hq dX11_state_113
      · have hq := hq.2 c5
        by_cases c6 : a1 = (3 : Int32)
        · have hq := hq.1 c6
          refine lv_tableH (off := 66) (tgt := 114) hE.1 hE.2.1 dX11_state_48 c6 (by decide) (by decide) (by decide) (by decide) ?_
          refine lv_aload_n hE.1 hE.2.1 dX11_state_114 rfl (lv_at hl 1 rfl) ?_
          refine mgf_X11_233 hE hw dX11_state_115 ?_
          exact rtI hE hr hlk hw hq dX11_state_118
        · have hq := hq.2 c6
          refine lv_tableD (ks := [0, 1, 2, 3]) (tgt := 119) hE.1 hE.2.1 dX11_state_48 (by simp only [List.forall_mem_cons, List.not_mem_nil, false_implies, implies_true, and_true]; exact ⟨c1, c4, c5, c6⟩) (by decide) (by decide) (by decide) ?_
          refine lv_iload_n hE.1 hE.2.1 dX11_state_119 rfl (lv_at hl 0 rfl) ?_
          refine lv_if_eq (tgt := 127) hE.1 hE.2.1 dX11_state_120 (by decide) (fun c7 => ?_) (fun c7 => ?_)
          · have hq := hq.1 c7
            refine lv_aload_n hE.1 hE.2.1 dX11_state_127 rfl (lv_at hl 1 rfl) ?_
            refine mgf_X11_40 hE hw dX11_state_128 ?_
            refine lv_aload_n hE.1 hE.2.1 dX11_state_131 rfl (lv_at hl 1 rfl) ?_
            refine mgf_X11_218 hE hw dX11_state_132 ?_
            obtain ⟨hi8, hq⟩ := hq
            refine mal_11 hE hw hi8 dX11_state_135 ?_
            exact rtI hE hr hlk hw hq dX11_state_136
          · have hq := hq.2 c7
            refine lv_iconst (v := (-1 : Int32)) hE.1 hE.2.1 dX11_state_123 (by decide) ?_
            refine lv_goto (tgt := 136) hE.1 hE.2.1 dX11_state_124 (by decide) ?_
            exact rtI hE hr hlk hw hq dX11_state_136
set_option maxRecDepth 20000 in
set_option maxHeartbeats 4000000 in
theorem tb_X11_state_b15 {p : Program} {l : Launch} {e : Env} {s : State} {m : MethodId} {args : Array Value} {below : List Frame} {meth : Method} {c : Code} {G : GG} {Φ : Int32 → S9 → Prop}  (hE : Ev 27 G p s m args c cX11_state RX11) (hml : c.maxLocals = 3) (hr : meth.sig.returnType = (some .int)) (hlk : meth.locks = false)  {a1 : Int32} {t0 : Int32} {σ : S9} {H : Heap} {locs : List Loc} {ls : Array Slot} (hq : wp_X11_state_b15  Φ a1 t0 σ) (hw : Pic mwl 27 G σ s.heap H locs) (hl : lv_has ls 3 [(0, .ref (gAd G 0)), (1, .int a1)]) : W p l e rm_X11_state s m args below meth c H locs 0 0 (QI mwl 27 G below args s Φ) (F0 m 15 ls [.int t0, .ref (gAd G 0)]) := by
  unfold wp_X11_state_b15 at hq
  refine lv_aload_n hE.1 hE.2.1 dX11_state_15 rfl (lv_at hl 0 rfl) ?_
  refine mgf_X11_202 hE hw dX11_state_16 ?_
  refine clVi (rest := []) (As := [.int t0, .int (σ.1 16)]) hE hml hl.1 hw (c_X11_goes hE.2.2.2.2.2 l _ _ _ _ hq) mu6 mu7 mu8 mu9 mu3 rfl (k := 2) (by decide +kernel) (by decide) (ci := 11) rfl (q0 := 0) rfl rfl rfl (Nat.le_of_ble_eq_true rfl) dX11_state_19 (by decide) (fun r1 σ1 hq H locs hw => ?_)
  refine lv_if_ne (tgt := 27) hE.1 hE.2.1 dX11_state_22 (by decide) (fun c2 => ?_) (fun c2 => ?_)
  · have hq := hq.2 c2
    refine lv_aload_n hE.1 hE.2.1 dX11_state_27 rfl (lv_at hl 0 rfl) ?_
    refine mgf_X11_28 hE hw dX11_state_28 ?_
    refine lv_aload_n hE.1 hE.2.1 dX11_state_31 rfl (lv_at hl 0 rfl) ?_
    refine mgf_X11_218 hE hw dX11_state_32 ?_
    obtain ⟨hi3, hq⟩ := hq
    refine mal_7 hE hw hi3 dX11_state_35 ?_
    refine lv_bipush (v := (13 : Int32)) hE.1 hE.2.1 dX11_state_36 (by decide) ?_
    refine lv_icmp_ne (tgt := 45) hE.1 hE.2.1 dX11_state_38 (by decide) (fun c4 => ?_) (fun c4 => ?_)
    · have hq := hq.2 c4
      refine lv_iconst (v := (0 : Int32)) hE.1 hE.2.1 dX11_state_45 (by decide) ?_
      exact tb_X11_state_b46 hE hml hr hlk  hq hw (lv_sub hl [0, 1] rfl)
    · have hq := hq.1 c4
      refine lv_iconst (v := (1 : Int32)) hE.1 hE.2.1 dX11_state_41 (by decide) ?_
      refine lv_goto (tgt := 46) hE.1 hE.2.1 dX11_state_42 (by decide) ?_
      exact tb_X11_state_b46 hE hml hr hlk  hq hw (lv_sub hl [0, 1] rfl)
  · have hq := hq.1 c2
    refine lv_iconst (v := (0 : Int32)) hE.1 hE.2.1 dX11_state_25 (by decide) ?_
    exact rtI hE hr hlk hw hq dX11_state_26
set_option maxRecDepth 20000 in
set_option maxHeartbeats 4000000 in
theorem tb_X11_state_b14 {p : Program} {l : Launch} {e : Env} {s : State} {m : MethodId} {args : Array Value} {below : List Frame} {meth : Method} {c : Code} {G : GG} {Φ : Int32 → S9 → Prop}  (hE : Ev 27 G p s m args c cX11_state RX11) (hml : c.maxLocals = 3) (hr : meth.sig.returnType = (some .int)) (hlk : meth.locks = false)  {a1 : Int32} {σ : S9} {H : Heap} {locs : List Loc} {ls : Array Slot} (hq : wp_X11_state_b14  Φ a1 σ) (hw : Pic mwl 27 G σ s.heap H locs) (hl : lv_has ls 3 [(0, .ref (gAd G 0)), (1, .int a1)]) : W p l e rm_X11_state s m args below meth c H locs 0 0 (QI mwl 27 G below args s Φ) (F0 m 14 ls [.ref (gAd G 0)]) := by
  unfold wp_X11_state_b14 at hq
  refine lv_iconst (v := (0 : Int32)) hE.1 hE.2.1 dX11_state_14 (by decide) ?_
  exact tb_X11_state_b15 hE hml hr hlk  hq hw (lv_sub hl [0, 1] rfl)
set_option maxRecDepth 20000 in
set_option maxHeartbeats 4000000 in
theorem c_X11_state {G : GG} (hJ : gJ 27 G) (l : Launch) (a1 : Int32) (σ : S9) (Φ : Int32 → S9 → Prop) (hq : wp_X11_state a1 σ Φ) : CI mwl 27 G l yX11_state cX11_state 3 (some .int) rm_X11_state [.ref (gAd G 0), .int a1] σ Φ := by
  refine CI.intro (by decide) (Nat.le_of_ble_eq_true rfl) hJ ?_
  intro p e s m args below meth c ls hE hml hr hlk hw hl
  have hl : lv_has ls 3 [(0, .ref (gAd G 0)), (1, .int a1)] := hl
  unfold wp_X11_state at hq
  refine lv_aload_n hE.1 hE.2.1 dX11_state_0 rfl (lv_at hl 0 rfl) ?_
  refine lv_iload_n hE.1 hE.2.1 dX11_state_1 rfl (lv_at hl 1 rfl) ?_
  refine lv_if_lt (tgt := 14) hE.1 hE.2.1 dX11_state_2 (by decide) (fun c1 => ?_) (fun c1 => ?_)
  · have hq := hq.1 c1
    exact tb_X11_state_b14 hE hml hr hlk  hq hw (lv_sub hl [0, 1] rfl)
  · have hq := hq.2 c1
    refine lv_iload_n hE.1 hE.2.1 dX11_state_5 rfl (lv_at hl 1 rfl) ?_
    refine lv_iconst (v := (4 : Int32)) hE.1 hE.2.1 dX11_state_6 (by decide) ?_
    refine lv_icmp_gt (tgt := 14) hE.1 hE.2.1 dX11_state_7 (by decide) (fun c2 => ?_) (fun c2 => ?_)
    · have hq := hq.1 c2
      exact tb_X11_state_b14 hE hml hr hlk  hq hw (lv_sub hl [0, 1] rfl)
    · have hq := hq.2 c2
      refine lv_iconst (v := (1 : Int32)) hE.1 hE.2.1 dX11_state_10 (by decide) ?_
      refine lv_goto (tgt := 15) hE.1 hE.2.1 dX11_state_11 (by decide) ?_
      exact tb_X11_state_b15 hE hml hr hlk  hq hw (lv_sub hl [0, 1] rfl)
/-! QueueBenchModel.output(I)I -/
abbrev rm_X11_output : Room := { frames := 1, cells := 0, slots := 0, locals := 22 }
def wp_X11_output_b37  (Φ : Int32 → S9 → Prop) (a1 : Int32) (t0 : Int32) (σ : S9) : Prop := wp_X11_goes t0 (1 : Int32) σ (fun r1 σ1 => (r1 = 0 → Φ (0 : Int32) σ1) ∧ (¬ r1 = 0 → vp_in (a1 - a1 / (200 : Int32) * (200 : Int32)) 200 ∧ Φ (σ1.2.1 23 ((a1 - a1 / (200 : Int32) * (200 : Int32))).toNatClampNeg) σ1))
def wp_X11_output_b36  (Φ : Int32 → S9 → Prop) (a1 : Int32) (σ : S9) : Prop := wp_X11_output_b37  Φ a1 (0 : Int32) σ
def wp_X11_output (a1 : Int32) (σ : S9) (Φ : Int32 → S9 → Prop) : Prop := ((σ.1 16) = 0 → wp_X11_output_b36  Φ a1 σ) ∧ (¬ (σ.1 16) = 0 → (a1 < 0 → wp_X11_output_b36  Φ a1 σ) ∧ (¬ a1 < 0 → ((σ.1 21) ≤ a1 → wp_X11_output_b36  Φ a1 σ) ∧ (¬ (σ.1 21) ≤ a1 → (a1 < ((σ.1 21) - (200 : Int32)) → wp_X11_output_b36  Φ a1 σ) ∧ (¬ a1 < ((σ.1 21) - (200 : Int32)) → wp_X11_output_b37  Φ a1 (1 : Int32) σ))))
theorem dX11_output_0 : decode cX11_output 0 = .ok (.aload_n 0, 1) := by decide +kernel
theorem dX11_output_1 : decode cX11_output 1 = .ok (.aload_n 0, 1) := by decide +kernel
theorem dX11_output_2 : decode cX11_output 2 = .ok (.getfield 202, 3) := by decide +kernel
theorem dX11_output_5 : decode cX11_output 5 = .ok (.ifCond .eq 31, 3) := by decide +kernel
theorem dX11_output_8 : decode cX11_output 8 = .ok (.iload_n 1, 1) := by decide +kernel
theorem dX11_output_9 : decode cX11_output 9 = .ok (.ifCond .lt 27, 3) := by decide +kernel
theorem dX11_output_12 : decode cX11_output 12 = .ok (.iload_n 1, 1) := by decide +kernel
theorem dX11_output_13 : decode cX11_output 13 = .ok (.aload_n 0, 1) := by decide +kernel
theorem dX11_output_14 : decode cX11_output 14 = .ok (.getfield 230, 3) := by decide +kernel
theorem dX11_output_17 : decode cX11_output 17 = .ok (.if_icmp .ge 19, 3) := by decide +kernel
theorem dX11_output_20 : decode cX11_output 20 = .ok (.iload_n 1, 1) := by decide +kernel
theorem dX11_output_21 : decode cX11_output 21 = .ok (.aload_n 0, 1) := by decide +kernel
theorem dX11_output_22 : decode cX11_output 22 = .ok (.getfield 230, 3) := by decide +kernel
theorem dX11_output_25 : decode cX11_output 25 = .ok (.sipush 200, 3) := by decide +kernel
theorem dX11_output_28 : decode cX11_output 28 = .ok (.isub, 1) := by decide +kernel
theorem dX11_output_29 : decode cX11_output 29 = .ok (.if_icmp .lt 7, 3) := by decide +kernel
theorem dX11_output_32 : decode cX11_output 32 = .ok (.iconst 1, 1) := by decide +kernel
theorem dX11_output_33 : decode cX11_output 33 = .ok (.goto 4, 3) := by decide +kernel
theorem dX11_output_36 : decode cX11_output 36 = .ok (.iconst 0, 1) := by decide +kernel
theorem dX11_output_37 : decode cX11_output 37 = .ok (.iconst 1, 1) := by decide +kernel
theorem dX11_output_38 : decode cX11_output 38 = .ok (.invokevirtual 100, 3) := by decide +kernel
theorem dX11_output_41 : decode cX11_output 41 = .ok (.ifCond .eq 16, 3) := by decide +kernel
theorem dX11_output_44 : decode cX11_output 44 = .ok (.aload_n 0, 1) := by decide +kernel
theorem dX11_output_45 : decode cX11_output 45 = .ok (.getfield 80, 3) := by decide +kernel
theorem dX11_output_48 : decode cX11_output 48 = .ok (.iload_n 1, 1) := by decide +kernel
theorem dX11_output_49 : decode cX11_output 49 = .ok (.sipush 200, 3) := by decide +kernel
theorem dX11_output_52 : decode cX11_output 52 = .ok (.irem, 1) := by decide +kernel
theorem dX11_output_53 : decode cX11_output 53 = .ok (.iaload, 1) := by decide +kernel
theorem dX11_output_54 : decode cX11_output 54 = .ok (.goto 4, 3) := by decide +kernel
theorem dX11_output_57 : decode cX11_output 57 = .ok (.iconst 0, 1) := by decide +kernel
theorem dX11_output_58 : decode cX11_output 58 = .ok (.ireturn, 1) := by decide +kernel
set_option maxRecDepth 20000 in
set_option maxHeartbeats 4000000 in
theorem tb_X11_output_b37 {p : Program} {l : Launch} {e : Env} {s : State} {m : MethodId} {args : Array Value} {below : List Frame} {meth : Method} {c : Code} {G : GG} {Φ : Int32 → S9 → Prop}  (hE : Ev 27 G p s m args c cX11_output RX11) (hml : c.maxLocals = 2) (hr : meth.sig.returnType = (some .int)) (hlk : meth.locks = false)  {a1 : Int32} {t0 : Int32} {σ : S9} {H : Heap} {locs : List Loc} {ls : Array Slot} (hq : wp_X11_output_b37  Φ a1 t0 σ) (hw : Pic mwl 27 G σ s.heap H locs) (hl : lv_has ls 2 [(0, .ref (gAd G 0)), (1, .int a1)]) : W p l e rm_X11_output s m args below meth c H locs 0 0 (QI mwl 27 G below args s Φ) (F0 m 37 ls [.int t0, .ref (gAd G 0)]) := by
  unfold wp_X11_output_b37 at hq
  refine lv_iconst (v := (1 : Int32)) hE.1 hE.2.1 dX11_output_37 (by decide) ?_
  refine clVi (rest := []) (As := [.int t0, .int (1 : Int32)]) hE hml hl.1 hw (c_X11_goes hE.2.2.2.2.2 l _ _ _ _ hq) mu6 mu7 mu8 mu9 mu3 rfl (k := 2) (by decide +kernel) (by decide) (ci := 11) rfl (q0 := 0) rfl rfl rfl (Nat.le_of_ble_eq_true rfl) dX11_output_38 (by decide) (fun r1 σ1 hq H locs hw => ?_)
  refine lv_if_eq (tgt := 57) hE.1 hE.2.1 dX11_output_41 (by decide) (fun c2 => ?_) (fun c2 => ?_)
  · have hq := hq.1 c2
    refine lv_iconst (v := (0 : Int32)) hE.1 hE.2.1 dX11_output_57 (by decide) ?_
    exact rtI hE hr hlk hw hq dX11_output_58
  · have hq := hq.2 c2
    refine lv_aload_n hE.1 hE.2.1 dX11_output_44 rfl (lv_at hl 0 rfl) ?_
    refine mgf_X11_80 hE hw dX11_output_45 ?_
    refine lv_iload_n hE.1 hE.2.1 dX11_output_48 rfl (lv_at hl 1 rfl) ?_
    refine lv_sipush (v := (200 : Int32)) hE.1 hE.2.1 dX11_output_49 (by decide) ?_
    refine lv_irem hE.1 hE.2.1 dX11_output_52 (by decide) ?_
    obtain ⟨hi3, hq⟩ := hq
    refine mal_24 hE hw hi3 dX11_output_53 ?_
    refine lv_goto (tgt := 58) hE.1 hE.2.1 dX11_output_54 (by decide) ?_
    exact rtI hE hr hlk hw hq dX11_output_58
set_option maxRecDepth 20000 in
set_option maxHeartbeats 4000000 in
theorem tb_X11_output_b36 {p : Program} {l : Launch} {e : Env} {s : State} {m : MethodId} {args : Array Value} {below : List Frame} {meth : Method} {c : Code} {G : GG} {Φ : Int32 → S9 → Prop}  (hE : Ev 27 G p s m args c cX11_output RX11) (hml : c.maxLocals = 2) (hr : meth.sig.returnType = (some .int)) (hlk : meth.locks = false)  {a1 : Int32} {σ : S9} {H : Heap} {locs : List Loc} {ls : Array Slot} (hq : wp_X11_output_b36  Φ a1 σ) (hw : Pic mwl 27 G σ s.heap H locs) (hl : lv_has ls 2 [(0, .ref (gAd G 0)), (1, .int a1)]) : W p l e rm_X11_output s m args below meth c H locs 0 0 (QI mwl 27 G below args s Φ) (F0 m 36 ls [.ref (gAd G 0)]) := by
  unfold wp_X11_output_b36 at hq
  refine lv_iconst (v := (0 : Int32)) hE.1 hE.2.1 dX11_output_36 (by decide) ?_
  exact tb_X11_output_b37 hE hml hr hlk  hq hw (lv_sub hl [0, 1] rfl)
set_option maxRecDepth 20000 in
set_option maxHeartbeats 4000000 in
theorem c_X11_output {G : GG} (hJ : gJ 27 G) (l : Launch) (a1 : Int32) (σ : S9) (Φ : Int32 → S9 → Prop) (hq : wp_X11_output a1 σ Φ) : CI mwl 27 G l yX11_output cX11_output 2 (some .int) rm_X11_output [.ref (gAd G 0), .int a1] σ Φ := by
  refine CI.intro (by decide) (Nat.le_of_ble_eq_true rfl) hJ ?_
  intro p e s m args below meth c ls hE hml hr hlk hw hl
  have hl : lv_has ls 2 [(0, .ref (gAd G 0)), (1, .int a1)] := hl
  unfold wp_X11_output at hq
  refine lv_aload_n hE.1 hE.2.1 dX11_output_0 rfl (lv_at hl 0 rfl) ?_
  refine lv_aload_n hE.1 hE.2.1 dX11_output_1 rfl (lv_at hl 0 rfl) ?_
  refine mgf_X11_202 hE hw dX11_output_2 ?_
  refine lv_if_eq (tgt := 36) hE.1 hE.2.1 dX11_output_5 (by decide) (fun c1 => ?_) (fun c1 => ?_)
  · have hq := hq.1 c1
    exact tb_X11_output_b36 hE hml hr hlk  hq hw (lv_sub hl [0, 1] rfl)
  · have hq := hq.2 c1
    refine lv_iload_n hE.1 hE.2.1 dX11_output_8 rfl (lv_at hl 1 rfl) ?_
    refine lv_if_lt (tgt := 36) hE.1 hE.2.1 dX11_output_9 (by decide) (fun c2 => ?_) (fun c2 => ?_)
    · have hq := hq.1 c2
      exact tb_X11_output_b36 hE hml hr hlk  hq hw (lv_sub hl [0, 1] rfl)
    · have hq := hq.2 c2
      refine lv_iload_n hE.1 hE.2.1 dX11_output_12 rfl (lv_at hl 1 rfl) ?_
      refine lv_aload_n hE.1 hE.2.1 dX11_output_13 rfl (lv_at hl 0 rfl) ?_
      refine mgf_X11_230 hE hw dX11_output_14 ?_
      refine lv_icmp_ge (tgt := 36) hE.1 hE.2.1 dX11_output_17 (by decide) (fun c3 => ?_) (fun c3 => ?_)
      · have hq := hq.1 c3
        exact tb_X11_output_b36 hE hml hr hlk  hq hw (lv_sub hl [0, 1] rfl)
      · have hq := hq.2 c3
        refine lv_iload_n hE.1 hE.2.1 dX11_output_20 rfl (lv_at hl 1 rfl) ?_
        refine lv_aload_n hE.1 hE.2.1 dX11_output_21 rfl (lv_at hl 0 rfl) ?_
        refine mgf_X11_230 hE hw dX11_output_22 ?_
        refine lv_sipush (v := (200 : Int32)) hE.1 hE.2.1 dX11_output_25 (by decide) ?_
        refine lv_isub hE.1 hE.2.1 dX11_output_28 ?_
        refine lv_icmp_lt (tgt := 36) hE.1 hE.2.1 dX11_output_29 (by decide) (fun c4 => ?_) (fun c4 => ?_)
        · have hq := hq.1 c4
          exact tb_X11_output_b36 hE hml hr hlk  hq hw (lv_sub hl [0, 1] rfl)
        · have hq := hq.2 c4
          refine lv_iconst (v := (1 : Int32)) hE.1 hE.2.1 dX11_output_32 (by decide) ?_
          refine lv_goto (tgt := 37) hE.1 hE.2.1 dX11_output_33 (by decide) ?_
          exact tb_X11_output_b37 hE hml hr hlk  hq hw (lv_sub hl [0, 1] rfl)
/-! QueueBenchModel.name(I)I -/
abbrev rm_X11_name : Room := { frames := 1, cells := 0, slots := 0, locals := 22 }
def wp_X11_name_b23  (Φ : Int32 → S9 → Prop) (a1 : Int32) (t0 : Int32) (σ : S9) : Prop := wp_X11_goes t0 (1 : Int32) σ (fun r1 σ1 => (r1 = 0 → Φ (0 : Int32) σ1) ∧ (¬ r1 = 0 → vp_in a1 26 ∧ Φ (σ1.2.1 21 (a1).toNatClampNeg) σ1))
def wp_X11_name_b22  (Φ : Int32 → S9 → Prop) (a1 : Int32) (σ : S9) : Prop := wp_X11_name_b23  Φ a1 (0 : Int32) σ
def wp_X11_name (a1 : Int32) (σ : S9) (Φ : Int32 → S9 → Prop) : Prop := ((σ.1 16) = 0 → wp_X11_name_b22  Φ a1 σ) ∧ (¬ (σ.1 16) = 0 → (a1 < 0 → wp_X11_name_b22  Φ a1 σ) ∧ (¬ a1 < 0 → ((26 : Int32) ≤ a1 → wp_X11_name_b22  Φ a1 σ) ∧ (¬ (26 : Int32) ≤ a1 → wp_X11_name_b23  Φ a1 (1 : Int32) σ)))
theorem dX11_name_0 : decode cX11_name 0 = .ok (.aload_n 0, 1) := by decide +kernel
theorem dX11_name_1 : decode cX11_name 1 = .ok (.aload_n 0, 1) := by decide +kernel
theorem dX11_name_2 : decode cX11_name 2 = .ok (.getfield 202, 3) := by decide +kernel
theorem dX11_name_5 : decode cX11_name 5 = .ok (.ifCond .eq 17, 3) := by decide +kernel
theorem dX11_name_8 : decode cX11_name 8 = .ok (.iload_n 1, 1) := by decide +kernel
theorem dX11_name_9 : decode cX11_name 9 = .ok (.ifCond .lt 13, 3) := by decide +kernel
theorem dX11_name_12 : decode cX11_name 12 = .ok (.iload_n 1, 1) := by decide +kernel
theorem dX11_name_13 : decode cX11_name 13 = .ok (.bipush 26, 2) := by decide +kernel
theorem dX11_name_15 : decode cX11_name 15 = .ok (.if_icmp .ge 7, 3) := by decide +kernel
theorem dX11_name_18 : decode cX11_name 18 = .ok (.iconst 1, 1) := by decide +kernel
theorem dX11_name_19 : decode cX11_name 19 = .ok (.goto 4, 3) := by decide +kernel
theorem dX11_name_22 : decode cX11_name 22 = .ok (.iconst 0, 1) := by decide +kernel
theorem dX11_name_23 : decode cX11_name 23 = .ok (.iconst 1, 1) := by decide +kernel
theorem dX11_name_24 : decode cX11_name 24 = .ok (.invokevirtual 100, 3) := by decide +kernel
theorem dX11_name_27 : decode cX11_name 27 = .ok (.ifCond .eq 12, 3) := by decide +kernel
theorem dX11_name_30 : decode cX11_name 30 = .ok (.aload_n 0, 1) := by decide +kernel
theorem dX11_name_31 : decode cX11_name 31 = .ok (.getfield 74, 3) := by decide +kernel
theorem dX11_name_34 : decode cX11_name 34 = .ok (.iload_n 1, 1) := by decide +kernel
theorem dX11_name_35 : decode cX11_name 35 = .ok (.iaload, 1) := by decide +kernel
theorem dX11_name_36 : decode cX11_name 36 = .ok (.goto 4, 3) := by decide +kernel
theorem dX11_name_39 : decode cX11_name 39 = .ok (.iconst 0, 1) := by decide +kernel
theorem dX11_name_40 : decode cX11_name 40 = .ok (.ireturn, 1) := by decide +kernel
set_option maxRecDepth 20000 in
set_option maxHeartbeats 4000000 in
theorem tb_X11_name_b23 {p : Program} {l : Launch} {e : Env} {s : State} {m : MethodId} {args : Array Value} {below : List Frame} {meth : Method} {c : Code} {G : GG} {Φ : Int32 → S9 → Prop}  (hE : Ev 27 G p s m args c cX11_name RX11) (hml : c.maxLocals = 2) (hr : meth.sig.returnType = (some .int)) (hlk : meth.locks = false)  {a1 : Int32} {t0 : Int32} {σ : S9} {H : Heap} {locs : List Loc} {ls : Array Slot} (hq : wp_X11_name_b23  Φ a1 t0 σ) (hw : Pic mwl 27 G σ s.heap H locs) (hl : lv_has ls 2 [(0, .ref (gAd G 0)), (1, .int a1)]) : W p l e rm_X11_name s m args below meth c H locs 0 0 (QI mwl 27 G below args s Φ) (F0 m 23 ls [.int t0, .ref (gAd G 0)]) := by
  unfold wp_X11_name_b23 at hq
  refine lv_iconst (v := (1 : Int32)) hE.1 hE.2.1 dX11_name_23 (by decide) ?_
  refine clVi (rest := []) (As := [.int t0, .int (1 : Int32)]) hE hml hl.1 hw (c_X11_goes hE.2.2.2.2.2 l _ _ _ _ hq) mu6 mu7 mu8 mu9 mu3 rfl (k := 2) (by decide +kernel) (by decide) (ci := 11) rfl (q0 := 0) rfl rfl rfl (Nat.le_of_ble_eq_true rfl) dX11_name_24 (by decide) (fun r1 σ1 hq H locs hw => ?_)
  refine lv_if_eq (tgt := 39) hE.1 hE.2.1 dX11_name_27 (by decide) (fun c2 => ?_) (fun c2 => ?_)
  · have hq := hq.1 c2
    refine lv_iconst (v := (0 : Int32)) hE.1 hE.2.1 dX11_name_39 (by decide) ?_
    exact rtI hE hr hlk hw hq dX11_name_40
  · have hq := hq.2 c2
    refine lv_aload_n hE.1 hE.2.1 dX11_name_30 rfl (lv_at hl 0 rfl) ?_
    refine mgf_X11_74 hE hw dX11_name_31 ?_
    refine lv_iload_n hE.1 hE.2.1 dX11_name_34 rfl (lv_at hl 1 rfl) ?_
    obtain ⟨hi3, hq⟩ := hq
    refine mal_22 hE hw hi3 dX11_name_35 ?_
    refine lv_goto (tgt := 40) hE.1 hE.2.1 dX11_name_36 (by decide) ?_
    exact rtI hE hr hlk hw hq dX11_name_40
set_option maxRecDepth 20000 in
set_option maxHeartbeats 4000000 in
theorem tb_X11_name_b22 {p : Program} {l : Launch} {e : Env} {s : State} {m : MethodId} {args : Array Value} {below : List Frame} {meth : Method} {c : Code} {G : GG} {Φ : Int32 → S9 → Prop}  (hE : Ev 27 G p s m args c cX11_name RX11) (hml : c.maxLocals = 2) (hr : meth.sig.returnType = (some .int)) (hlk : meth.locks = false)  {a1 : Int32} {σ : S9} {H : Heap} {locs : List Loc} {ls : Array Slot} (hq : wp_X11_name_b22  Φ a1 σ) (hw : Pic mwl 27 G σ s.heap H locs) (hl : lv_has ls 2 [(0, .ref (gAd G 0)), (1, .int a1)]) : W p l e rm_X11_name s m args below meth c H locs 0 0 (QI mwl 27 G below args s Φ) (F0 m 22 ls [.ref (gAd G 0)]) := by
  unfold wp_X11_name_b22 at hq
  refine lv_iconst (v := (0 : Int32)) hE.1 hE.2.1 dX11_name_22 (by decide) ?_
  exact tb_X11_name_b23 hE hml hr hlk  hq hw (lv_sub hl [0, 1] rfl)
set_option maxRecDepth 20000 in
set_option maxHeartbeats 4000000 in
theorem c_X11_name {G : GG} (hJ : gJ 27 G) (l : Launch) (a1 : Int32) (σ : S9) (Φ : Int32 → S9 → Prop) (hq : wp_X11_name a1 σ Φ) : CI mwl 27 G l yX11_name cX11_name 2 (some .int) rm_X11_name [.ref (gAd G 0), .int a1] σ Φ := by
  refine CI.intro (by decide) (Nat.le_of_ble_eq_true rfl) hJ ?_
  intro p e s m args below meth c ls hE hml hr hlk hw hl
  have hl : lv_has ls 2 [(0, .ref (gAd G 0)), (1, .int a1)] := hl
  unfold wp_X11_name at hq
  refine lv_aload_n hE.1 hE.2.1 dX11_name_0 rfl (lv_at hl 0 rfl) ?_
  refine lv_aload_n hE.1 hE.2.1 dX11_name_1 rfl (lv_at hl 0 rfl) ?_
  refine mgf_X11_202 hE hw dX11_name_2 ?_
  refine lv_if_eq (tgt := 22) hE.1 hE.2.1 dX11_name_5 (by decide) (fun c1 => ?_) (fun c1 => ?_)
  · have hq := hq.1 c1
    exact tb_X11_name_b22 hE hml hr hlk  hq hw (lv_sub hl [0, 1] rfl)
  · have hq := hq.2 c1
    refine lv_iload_n hE.1 hE.2.1 dX11_name_8 rfl (lv_at hl 1 rfl) ?_
    refine lv_if_lt (tgt := 22) hE.1 hE.2.1 dX11_name_9 (by decide) (fun c2 => ?_) (fun c2 => ?_)
    · have hq := hq.1 c2
      exact tb_X11_name_b22 hE hml hr hlk  hq hw (lv_sub hl [0, 1] rfl)
    · have hq := hq.2 c2
      refine lv_iload_n hE.1 hE.2.1 dX11_name_12 rfl (lv_at hl 1 rfl) ?_
      refine lv_bipush (v := (26 : Int32)) hE.1 hE.2.1 dX11_name_13 (by decide) ?_
      refine lv_icmp_ge (tgt := 22) hE.1 hE.2.1 dX11_name_15 (by decide) (fun c3 => ?_) (fun c3 => ?_)
      · have hq := hq.1 c3
        exact tb_X11_name_b22 hE hml hr hlk  hq hw (lv_sub hl [0, 1] rfl)
      · have hq := hq.2 c3
        refine lv_iconst (v := (1 : Int32)) hE.1 hE.2.1 dX11_name_18 (by decide) ?_
        refine lv_goto (tgt := 23) hE.1 hE.2.1 dX11_name_19 (by decide) ?_
        exact tb_X11_name_b23 hE hml hr hlk  hq hw (lv_sub hl [0, 1] rfl)
/-! QueueBenchModel.cell(I)I -/
abbrev rm_X11_cell : Room := { frames := 1, cells := 0, slots := 0, locals := 22 }
def wp_X11_cell_b20  (Φ : Int32 → S9 → Prop) (a1 : Int32) (t0 : Int32) (σ : S9) : Prop := wp_X11_goes t0 (1 : Int32) σ (fun r1 σ1 => (r1 = 0 → Φ (0 : Int32) σ1) ∧ (¬ r1 = 0 → vp_in a1 100 ∧ Φ (σ1.2.1 22 (a1).toNatClampNeg) σ1))
def wp_X11_cell_b19  (Φ : Int32 → S9 → Prop) (a1 : Int32) (σ : S9) : Prop := wp_X11_cell_b20  Φ a1 (0 : Int32) σ
def wp_X11_cell (a1 : Int32) (σ : S9) (Φ : Int32 → S9 → Prop) : Prop := ((σ.1 16) = 0 → wp_X11_cell_b19  Φ a1 σ) ∧ (¬ (σ.1 16) = 0 → wp_X11_isCell a1 σ (fun r2 σ1 => (r2 = 0 → wp_X11_cell_b19  Φ a1 σ1) ∧ (¬ r2 = 0 → wp_X11_cell_b20  Φ a1 (1 : Int32) σ1)))
theorem dX11_cell_0 : decode cX11_cell 0 = .ok (.aload_n 0, 1) := by decide +kernel
theorem dX11_cell_1 : decode cX11_cell 1 = .ok (.aload_n 0, 1) := by decide +kernel
theorem dX11_cell_2 : decode cX11_cell 2 = .ok (.getfield 202, 3) := by decide +kernel
theorem dX11_cell_5 : decode cX11_cell 5 = .ok (.ifCond .eq 14, 3) := by decide +kernel
theorem dX11_cell_8 : decode cX11_cell 8 = .ok (.iload_n 1, 1) := by decide +kernel
theorem dX11_cell_9 : decode cX11_cell 9 = .ok (.invokestatic 245, 3) := by decide +kernel
theorem dX11_cell_12 : decode cX11_cell 12 = .ok (.ifCond .eq 7, 3) := by decide +kernel
theorem dX11_cell_15 : decode cX11_cell 15 = .ok (.iconst 1, 1) := by decide +kernel
theorem dX11_cell_16 : decode cX11_cell 16 = .ok (.goto 4, 3) := by decide +kernel
theorem dX11_cell_19 : decode cX11_cell 19 = .ok (.iconst 0, 1) := by decide +kernel
theorem dX11_cell_20 : decode cX11_cell 20 = .ok (.iconst 1, 1) := by decide +kernel
theorem dX11_cell_21 : decode cX11_cell 21 = .ok (.invokevirtual 100, 3) := by decide +kernel
theorem dX11_cell_24 : decode cX11_cell 24 = .ok (.ifCond .eq 12, 3) := by decide +kernel
theorem dX11_cell_27 : decode cX11_cell 27 = .ok (.aload_n 0, 1) := by decide +kernel
theorem dX11_cell_28 : decode cX11_cell 28 = .ok (.getfield 77, 3) := by decide +kernel
theorem dX11_cell_31 : decode cX11_cell 31 = .ok (.iload_n 1, 1) := by decide +kernel
theorem dX11_cell_32 : decode cX11_cell 32 = .ok (.iaload, 1) := by decide +kernel
theorem dX11_cell_33 : decode cX11_cell 33 = .ok (.goto 4, 3) := by decide +kernel
theorem dX11_cell_36 : decode cX11_cell 36 = .ok (.iconst 0, 1) := by decide +kernel
theorem dX11_cell_37 : decode cX11_cell 37 = .ok (.ireturn, 1) := by decide +kernel
set_option maxRecDepth 20000 in
set_option maxHeartbeats 4000000 in
theorem tb_X11_cell_b20 {p : Program} {l : Launch} {e : Env} {s : State} {m : MethodId} {args : Array Value} {below : List Frame} {meth : Method} {c : Code} {G : GG} {Φ : Int32 → S9 → Prop}  (hE : Ev 27 G p s m args c cX11_cell RX11) (hml : c.maxLocals = 2) (hr : meth.sig.returnType = (some .int)) (hlk : meth.locks = false)  {a1 : Int32} {t0 : Int32} {σ : S9} {H : Heap} {locs : List Loc} {ls : Array Slot} (hq : wp_X11_cell_b20  Φ a1 t0 σ) (hw : Pic mwl 27 G σ s.heap H locs) (hl : lv_has ls 2 [(0, .ref (gAd G 0)), (1, .int a1)]) : W p l e rm_X11_cell s m args below meth c H locs 0 0 (QI mwl 27 G below args s Φ) (F0 m 20 ls [.int t0, .ref (gAd G 0)]) := by
  unfold wp_X11_cell_b20 at hq
  refine lv_iconst (v := (1 : Int32)) hE.1 hE.2.1 dX11_cell_20 (by decide) ?_
  refine clVi (rest := []) (As := [.int t0, .int (1 : Int32)]) hE hml hl.1 hw (c_X11_goes hE.2.2.2.2.2 l _ _ _ _ hq) mu6 mu7 mu8 mu9 mu3 rfl (k := 2) (by decide +kernel) (by decide) (ci := 11) rfl (q0 := 0) rfl rfl rfl (Nat.le_of_ble_eq_true rfl) dX11_cell_21 (by decide) (fun r1 σ1 hq H locs hw => ?_)
  refine lv_if_eq (tgt := 36) hE.1 hE.2.1 dX11_cell_24 (by decide) (fun c2 => ?_) (fun c2 => ?_)
  · have hq := hq.1 c2
    refine lv_iconst (v := (0 : Int32)) hE.1 hE.2.1 dX11_cell_36 (by decide) ?_
    exact rtI hE hr hlk hw hq dX11_cell_37
  · have hq := hq.2 c2
    refine lv_aload_n hE.1 hE.2.1 dX11_cell_27 rfl (lv_at hl 0 rfl) ?_
    refine mgf_X11_77 hE hw dX11_cell_28 ?_
    refine lv_iload_n hE.1 hE.2.1 dX11_cell_31 rfl (lv_at hl 1 rfl) ?_
    obtain ⟨hi3, hq⟩ := hq
    refine mal_23 hE hw hi3 dX11_cell_32 ?_
    refine lv_goto (tgt := 37) hE.1 hE.2.1 dX11_cell_33 (by decide) ?_
    exact rtI hE hr hlk hw hq dX11_cell_37
set_option maxRecDepth 20000 in
set_option maxHeartbeats 4000000 in
theorem tb_X11_cell_b19 {p : Program} {l : Launch} {e : Env} {s : State} {m : MethodId} {args : Array Value} {below : List Frame} {meth : Method} {c : Code} {G : GG} {Φ : Int32 → S9 → Prop}  (hE : Ev 27 G p s m args c cX11_cell RX11) (hml : c.maxLocals = 2) (hr : meth.sig.returnType = (some .int)) (hlk : meth.locks = false)  {a1 : Int32} {σ : S9} {H : Heap} {locs : List Loc} {ls : Array Slot} (hq : wp_X11_cell_b19  Φ a1 σ) (hw : Pic mwl 27 G σ s.heap H locs) (hl : lv_has ls 2 [(0, .ref (gAd G 0)), (1, .int a1)]) : W p l e rm_X11_cell s m args below meth c H locs 0 0 (QI mwl 27 G below args s Φ) (F0 m 19 ls [.ref (gAd G 0)]) := by
  unfold wp_X11_cell_b19 at hq
  refine lv_iconst (v := (0 : Int32)) hE.1 hE.2.1 dX11_cell_19 (by decide) ?_
  exact tb_X11_cell_b20 hE hml hr hlk  hq hw (lv_sub hl [0, 1] rfl)
set_option maxRecDepth 20000 in
set_option maxHeartbeats 4000000 in
theorem c_X11_cell {G : GG} (hJ : gJ 27 G) (l : Launch) (a1 : Int32) (σ : S9) (Φ : Int32 → S9 → Prop) (hq : wp_X11_cell a1 σ Φ) : CI mwl 27 G l yX11_cell cX11_cell 2 (some .int) rm_X11_cell [.ref (gAd G 0), .int a1] σ Φ := by
  refine CI.intro (by decide) (Nat.le_of_ble_eq_true rfl) hJ ?_
  intro p e s m args below meth c ls hE hml hr hlk hw hl
  have hl : lv_has ls 2 [(0, .ref (gAd G 0)), (1, .int a1)] := hl
  unfold wp_X11_cell at hq
  refine lv_aload_n hE.1 hE.2.1 dX11_cell_0 rfl (lv_at hl 0 rfl) ?_
  refine lv_aload_n hE.1 hE.2.1 dX11_cell_1 rfl (lv_at hl 0 rfl) ?_
  refine mgf_X11_202 hE hw dX11_cell_2 ?_
  refine lv_if_eq (tgt := 19) hE.1 hE.2.1 dX11_cell_5 (by decide) (fun c1 => ?_) (fun c1 => ?_)
  · have hq := hq.1 c1
    exact tb_X11_cell_b19 hE hml hr hlk  hq hw (lv_sub hl [0, 1] rfl)
  · have hq := hq.2 c1
    refine lv_iload_n hE.1 hE.2.1 dX11_cell_8 rfl (lv_at hl 1 rfl) ?_
    refine clSi (rest := [.ref (gAd G 0)]) (As := [.int a1]) hE hml hl.1 hw (c_X11_isCell hE.2.2.2.2.2 l _ _ _ hq) mu133 mu134 mu135 mu3 (k := 1) (by decide +kernel) (by decide) rfl rfl (Nat.le_of_ble_eq_true rfl) dX11_cell_9 (by decide) (fun r2 σ1 hq H locs hw => ?_)
    refine lv_if_eq (tgt := 19) hE.1 hE.2.1 dX11_cell_12 (by decide) (fun c3 => ?_) (fun c3 => ?_)
    · have hq := hq.1 c3
      exact tb_X11_cell_b19 hE hml hr hlk  hq hw (lv_sub hl [0, 1] rfl)
    · have hq := hq.2 c3
      refine lv_iconst (v := (1 : Int32)) hE.1 hE.2.1 dX11_cell_15 (by decide) ?_
      refine lv_goto (tgt := 20) hE.1 hE.2.1 dX11_cell_16 (by decide) ?_
      exact tb_X11_cell_b20 hE hml hr hlk  hq hw (lv_sub hl [0, 1] rfl)
/-! QueueBenchModel.terms(I)I -/
abbrev rm_X11_terms : Room := { frames := 1, cells := 0, slots := 0, locals := 22 }
def wp_X11_terms_b56  (Φ : Int32 → S9 → Prop) (a2 : Int32) (t0 : Int32) (σ : S9) : Prop := wp_X11_goes t0 (1 : Int32) σ (fun r1 σ1 => (r1 = 0 → Φ (0 : Int32) σ1) ∧ (¬ r1 = 0 → vp_in a2 1200 ∧ Φ (σ1.2.1 11 (a2).toNatClampNeg) σ1))
def wp_X11_terms_b45  (Φ : Int32 → S9 → Prop) (a2 : Int32) (σ : S9) : Prop := (a2 = (-1 : Int32) → wp_X11_terms_b56  Φ a2 (0 : Int32) σ) ∧ (¬ a2 = (-1 : Int32) → wp_X11_terms_b56  Φ a2 (1 : Int32) σ)
def bd_X11_terms_b4 (K4 : Int32 → Int32 → Int32 → S9 → Prop) (Φ : Int32 → S9 → Prop) (a1 : Int32) (a2 : Int32) (a3 : Int32) (σ : S9) : Prop := ((σ.1 11) ≤ a3 → wp_X11_terms_b45  Φ a2 σ) ∧ (¬ (σ.1 11) ≤ a3 → ((σ.1 10) = 0 → wp_X11_terms_b45  Φ a2 σ) ∧ (¬ (σ.1 10) = 0 → vp_in a3 1200 ∧ ((σ.2.1 10 (a3).toNatClampNeg) = a1 → (a1 < 0 → ∀ x7 : Int32, x7 = a3 + 1 → K4 a1 a2 x7 σ) ∧ (¬ a1 < 0 → ∀ x8 : Int32, x8 = a3 + 1 → K4 a1 a3 x8 σ)) ∧ (¬ (σ.2.1 10 (a3).toNatClampNeg) = a1 → ∀ x5 : Int32, x5 = a3 + 1 → K4 a1 a2 x5 σ)))
def lp_X11_terms_b4  (Φ : Int32 → S9 → Prop) : Nat → Int32 → Int32 → Int32 → S9 → Prop
  | 0 => fun _ _ _ _ => False
  | n + 1 => bd_X11_terms_b4  (lp_X11_terms_b4  Φ n) Φ
def wp_X11_terms (a1 : Int32) (σ : S9) (Φ : Int32 → S9 → Prop) : Prop := ∀ x1 : Int32, x1 = (-1 : Int32) → ∀ x2 : Int32, x2 = (0 : Int32) → ∃ n : Nat, lp_X11_terms_b4  Φ n a1 x1 x2 σ
theorem dX11_terms_0 : decode cX11_terms 0 = .ok (.iconst (-1), 1) := by decide +kernel
theorem dX11_terms_1 : decode cX11_terms 1 = .ok (.istore_n 2, 1) := by decide +kernel
theorem dX11_terms_2 : decode cX11_terms 2 = .ok (.iconst 0, 1) := by decide +kernel
theorem dX11_terms_3 : decode cX11_terms 3 = .ok (.istore_n 3, 1) := by decide +kernel
theorem dX11_terms_4 : decode cX11_terms 4 = .ok (.iload_n 3, 1) := by decide +kernel
theorem dX11_terms_5 : decode cX11_terms 5 = .ok (.aload_n 0, 1) := by decide +kernel
theorem dX11_terms_6 : decode cX11_terms 6 = .ok (.getfield 134, 3) := by decide +kernel
theorem dX11_terms_9 : decode cX11_terms 9 = .ok (.if_icmp .ge 36, 3) := by decide +kernel
theorem dX11_terms_12 : decode cX11_terms 12 = .ok (.aload_n 0, 1) := by decide +kernel
theorem dX11_terms_13 : decode cX11_terms 13 = .ok (.getfield 212, 3) := by decide +kernel
theorem dX11_terms_16 : decode cX11_terms 16 = .ok (.ifCond .eq 29, 3) := by decide +kernel
theorem dX11_terms_19 : decode cX11_terms 19 = .ok (.aload_n 0, 1) := by decide +kernel
theorem dX11_terms_20 : decode cX11_terms 20 = .ok (.getfield 40, 3) := by decide +kernel
theorem dX11_terms_23 : decode cX11_terms 23 = .ok (.iload_n 3, 1) := by decide +kernel
theorem dX11_terms_24 : decode cX11_terms 24 = .ok (.iaload, 1) := by decide +kernel
theorem dX11_terms_25 : decode cX11_terms 25 = .ok (.iload_n 1, 1) := by decide +kernel
theorem dX11_terms_26 : decode cX11_terms 26 = .ok (.if_icmp .ne 11, 3) := by decide +kernel
theorem dX11_terms_29 : decode cX11_terms 29 = .ok (.iload_n 1, 1) := by decide +kernel
theorem dX11_terms_30 : decode cX11_terms 30 = .ok (.ifCond .lt 7, 3) := by decide +kernel
theorem dX11_terms_33 : decode cX11_terms 33 = .ok (.iload_n 3, 1) := by decide +kernel
theorem dX11_terms_34 : decode cX11_terms 34 = .ok (.goto 4, 3) := by decide +kernel
theorem dX11_terms_37 : decode cX11_terms 37 = .ok (.iload_n 2, 1) := by decide +kernel
theorem dX11_terms_38 : decode cX11_terms 38 = .ok (.istore_n 2, 1) := by decide +kernel
theorem dX11_terms_39 : decode cX11_terms 39 = .ok (.iinc 3 1, 3) := by decide +kernel
theorem dX11_terms_42 : decode cX11_terms 42 = .ok (.goto (-38), 3) := by decide +kernel
theorem dX11_terms_45 : decode cX11_terms 45 = .ok (.aload_n 0, 1) := by decide +kernel
theorem dX11_terms_46 : decode cX11_terms 46 = .ok (.iload_n 2, 1) := by decide +kernel
theorem dX11_terms_47 : decode cX11_terms 47 = .ok (.iconst (-1), 1) := by decide +kernel
theorem dX11_terms_48 : decode cX11_terms 48 = .ok (.if_icmp .eq 7, 3) := by decide +kernel
theorem dX11_terms_51 : decode cX11_terms 51 = .ok (.iconst 1, 1) := by decide +kernel
theorem dX11_terms_52 : decode cX11_terms 52 = .ok (.goto 4, 3) := by decide +kernel
theorem dX11_terms_55 : decode cX11_terms 55 = .ok (.iconst 0, 1) := by decide +kernel
theorem dX11_terms_56 : decode cX11_terms 56 = .ok (.iconst 1, 1) := by decide +kernel
theorem dX11_terms_57 : decode cX11_terms 57 = .ok (.invokevirtual 100, 3) := by decide +kernel
theorem dX11_terms_60 : decode cX11_terms 60 = .ok (.ifCond .eq 12, 3) := by decide +kernel
theorem dX11_terms_63 : decode cX11_terms 63 = .ok (.aload_n 0, 1) := by decide +kernel
theorem dX11_terms_64 : decode cX11_terms 64 = .ok (.getfield 43, 3) := by decide +kernel
theorem dX11_terms_67 : decode cX11_terms 67 = .ok (.iload_n 2, 1) := by decide +kernel
theorem dX11_terms_68 : decode cX11_terms 68 = .ok (.iaload, 1) := by decide +kernel
theorem dX11_terms_69 : decode cX11_terms 69 = .ok (.goto 4, 3) := by decide +kernel
theorem dX11_terms_72 : decode cX11_terms 72 = .ok (.iconst 0, 1) := by decide +kernel
theorem dX11_terms_73 : decode cX11_terms 73 = .ok (.ireturn, 1) := by decide +kernel
set_option maxRecDepth 20000 in
set_option maxHeartbeats 4000000 in
theorem tb_X11_terms_b56 {p : Program} {l : Launch} {e : Env} {s : State} {m : MethodId} {args : Array Value} {below : List Frame} {meth : Method} {c : Code} {G : GG} {Φ : Int32 → S9 → Prop}  (hE : Ev 27 G p s m args c cX11_terms RX11) (hml : c.maxLocals = 4) (hr : meth.sig.returnType = (some .int)) (hlk : meth.locks = false)  {a2 : Int32} {t0 : Int32} {σ : S9} {H : Heap} {locs : List Loc} {ls : Array Slot} (hq : wp_X11_terms_b56  Φ a2 t0 σ) (hw : Pic mwl 27 G σ s.heap H locs) (hl : lv_has ls 4 [(0, .ref (gAd G 0)), (2, .int a2)]) : W p l e rm_X11_terms s m args below meth c H locs 0 0 (QI mwl 27 G below args s Φ) (F0 m 56 ls [.int t0, .ref (gAd G 0)]) := by
  unfold wp_X11_terms_b56 at hq
  refine lv_iconst (v := (1 : Int32)) hE.1 hE.2.1 dX11_terms_56 (by decide) ?_
  refine clVi (rest := []) (As := [.int t0, .int (1 : Int32)]) hE hml hl.1 hw (c_X11_goes hE.2.2.2.2.2 l _ _ _ _ hq) mu6 mu7 mu8 mu9 mu3 rfl (k := 2) (by decide +kernel) (by decide) (ci := 11) rfl (q0 := 0) rfl rfl rfl (Nat.le_of_ble_eq_true rfl) dX11_terms_57 (by decide) (fun r1 σ1 hq H locs hw => ?_)
  refine lv_if_eq (tgt := 72) hE.1 hE.2.1 dX11_terms_60 (by decide) (fun c2 => ?_) (fun c2 => ?_)
  · have hq := hq.1 c2
    refine lv_iconst (v := (0 : Int32)) hE.1 hE.2.1 dX11_terms_72 (by decide) ?_
    exact rtI hE hr hlk hw hq dX11_terms_73
  · have hq := hq.2 c2
    refine lv_aload_n hE.1 hE.2.1 dX11_terms_63 rfl (lv_at hl 0 rfl) ?_
    refine mgf_X11_43 hE hw dX11_terms_64 ?_
    refine lv_iload_n hE.1 hE.2.1 dX11_terms_67 rfl (lv_at hl 1 rfl) ?_
    obtain ⟨hi3, hq⟩ := hq
    refine mal_12 hE hw hi3 dX11_terms_68 ?_
    refine lv_goto (tgt := 73) hE.1 hE.2.1 dX11_terms_69 (by decide) ?_
    exact rtI hE hr hlk hw hq dX11_terms_73
set_option maxRecDepth 20000 in
set_option maxHeartbeats 4000000 in
theorem tb_X11_terms_b45 {p : Program} {l : Launch} {e : Env} {s : State} {m : MethodId} {args : Array Value} {below : List Frame} {meth : Method} {c : Code} {G : GG} {Φ : Int32 → S9 → Prop}  (hE : Ev 27 G p s m args c cX11_terms RX11) (hml : c.maxLocals = 4) (hr : meth.sig.returnType = (some .int)) (hlk : meth.locks = false)  {a2 : Int32} {σ : S9} {H : Heap} {locs : List Loc} {ls : Array Slot} (hq : wp_X11_terms_b45  Φ a2 σ) (hw : Pic mwl 27 G σ s.heap H locs) (hl : lv_has ls 4 [(0, .ref (gAd G 0)), (2, .int a2)]) : W p l e rm_X11_terms s m args below meth c H locs 0 0 (QI mwl 27 G below args s Φ) (F0 m 45 ls []) := by
  unfold wp_X11_terms_b45 at hq
  refine lv_aload_n hE.1 hE.2.1 dX11_terms_45 rfl (lv_at hl 0 rfl) ?_
  refine lv_iload_n hE.1 hE.2.1 dX11_terms_46 rfl (lv_at hl 1 rfl) ?_
  refine lv_iconst (v := (-1 : Int32)) hE.1 hE.2.1 dX11_terms_47 (by decide) ?_
  refine lv_icmp_eq (tgt := 55) hE.1 hE.2.1 dX11_terms_48 (by decide) (fun c1 => ?_) (fun c1 => ?_)
  · have hq := hq.1 c1
    refine lv_iconst (v := (0 : Int32)) hE.1 hE.2.1 dX11_terms_55 (by decide) ?_
    exact tb_X11_terms_b56 hE hml hr hlk  hq hw (lv_sub hl [0, 1] rfl)
  · have hq := hq.2 c1
    refine lv_iconst (v := (1 : Int32)) hE.1 hE.2.1 dX11_terms_51 (by decide) ?_
    refine lv_goto (tgt := 56) hE.1 hE.2.1 dX11_terms_52 (by decide) ?_
    exact tb_X11_terms_b56 hE hml hr hlk  hq hw (lv_sub hl [0, 1] rfl)
set_option maxRecDepth 20000 in
set_option maxHeartbeats 4000000 in
theorem tb_X11_terms_b4 {p : Program} {l : Launch} {e : Env} {s : State} {m : MethodId} {args : Array Value} {below : List Frame} {meth : Method} {c : Code} {G : GG} {Φ : Int32 → S9 → Prop} {K4 : Int32 → Int32 → Int32 → S9 → Prop} (hE : Ev 27 G p s m args c cX11_terms RX11) (hml : c.maxLocals = 4) (hr : meth.sig.returnType = (some .int)) (hlk : meth.locks = false) (hK4 : ∀ (a1 : Int32) (a2 : Int32) (a3 : Int32) (σ : S9) (H : Heap) (locs : List Loc) (ls : Array Slot), K4 a1 a2 a3 σ → Pic mwl 27 G σ s.heap H locs → lv_has ls 4 [(0, .ref (gAd G 0)), (1, .int a1), (2, .int a2), (3, .int a3)] → W p l e rm_X11_terms s m args below meth c H locs 0 0 (QI mwl 27 G below args s Φ) (F0 m 4 ls [])) {a1 : Int32} {a2 : Int32} {a3 : Int32} {σ : S9} {H : Heap} {locs : List Loc} {ls : Array Slot} (hq : bd_X11_terms_b4 K4 Φ a1 a2 a3 σ) (hw : Pic mwl 27 G σ s.heap H locs) (hl : lv_has ls 4 [(0, .ref (gAd G 0)), (1, .int a1), (2, .int a2), (3, .int a3)]) : W p l e rm_X11_terms s m args below meth c H locs 0 0 (QI mwl 27 G below args s Φ) (F0 m 4 ls []) := by
  unfold bd_X11_terms_b4 at hq
  refine lv_iload_n hE.1 hE.2.1 dX11_terms_4 rfl (lv_at hl 3 rfl) ?_
  refine lv_aload_n hE.1 hE.2.1 dX11_terms_5 rfl (lv_at hl 0 rfl) ?_
  refine mgf_X11_134 hE hw dX11_terms_6 ?_
  refine lv_icmp_ge (tgt := 45) hE.1 hE.2.1 dX11_terms_9 (by decide) (fun c1 => ?_) (fun c1 => ?_)
  · have hq := hq.1 c1
    exact tb_X11_terms_b45 hE hml hr hlk  hq hw (lv_sub hl [0, 2] rfl)
  · have hq := hq.2 c1
    refine lv_aload_n hE.1 hE.2.1 dX11_terms_12 rfl (lv_at hl 0 rfl) ?_
    refine mgf_X11_212 hE hw dX11_terms_13 ?_
    refine lv_if_eq (tgt := 45) hE.1 hE.2.1 dX11_terms_16 (by decide) (fun c2 => ?_) (fun c2 => ?_)
    · have hq := hq.1 c2
      exact tb_X11_terms_b45 hE hml hr hlk  hq hw (lv_sub hl [0, 2] rfl)
    · have hq := hq.2 c2
      refine lv_aload_n hE.1 hE.2.1 dX11_terms_19 rfl (lv_at hl 0 rfl) ?_
      refine mgf_X11_40 hE hw dX11_terms_20 ?_
      refine lv_iload_n hE.1 hE.2.1 dX11_terms_23 rfl (lv_at hl 3 rfl) ?_
      obtain ⟨hi3, hq⟩ := hq
      refine mal_11 hE hw hi3 dX11_terms_24 ?_
      refine lv_iload_n hE.1 hE.2.1 dX11_terms_25 rfl (lv_at hl 1 rfl) ?_
      refine lv_icmp_ne (tgt := 37) hE.1 hE.2.1 dX11_terms_26 (by decide) (fun c4 => ?_) (fun c4 => ?_)
      · have hq := hq.2 c4
        refine lv_iload_n hE.1 hE.2.1 dX11_terms_37 rfl (lv_at hl 2 rfl) ?_
        refine lv_istore_n (lv' := [(2, .int a2), (0, .ref (gAd G 0)), (1, .int a1), (3, .int a3)]) hE.1 hE.2.1 dX11_terms_38 rfl hl (by decide) rfl (fun ls hl => ?_)
        obtain ⟨x5, ex5⟩ : ∃ y : Int32, y = a3 + 1 := ⟨_, rfl⟩
        have hq := hq x5 ex5
        refine lv_iinc (v := x5) (lv' := [(3, .int x5), (2, .int a2), (0, .ref (gAd G 0)), (1, .int a1)]) hE.1 hE.2.1 dX11_terms_39 hl (k := 3) rfl (by rw [ex5]; rfl) (by decide) rfl (fun ls hl => ?_)
        refine lv_goto (tgt := 4) hE.1 hE.2.1 dX11_terms_42 (by decide) ?_
        exact hK4 _ _ _ _ _ _ _ hq hw (lv_sub hl [2, 3, 1, 0] rfl)
      · have hq := hq.1 c4
        refine lv_iload_n hE.1 hE.2.1 dX11_terms_29 rfl (lv_at hl 1 rfl) ?_
        refine lv_if_lt (tgt := 37) hE.1 hE.2.1 dX11_terms_30 (by decide) (fun c6 => ?_) (fun c6 => ?_)
        · have hq := hq.1 c6
          refine lv_iload_n hE.1 hE.2.1 dX11_terms_37 rfl (lv_at hl 2 rfl) ?_
          refine lv_istore_n (lv' := [(2, .int a2), (0, .ref (gAd G 0)), (1, .int a1), (3, .int a3)]) hE.1 hE.2.1 dX11_terms_38 rfl hl (by decide) rfl (fun ls hl => ?_)
          obtain ⟨x7, ex7⟩ : ∃ y : Int32, y = a3 + 1 := ⟨_, rfl⟩
          have hq := hq x7 ex7
          refine lv_iinc (v := x7) (lv' := [(3, .int x7), (2, .int a2), (0, .ref (gAd G 0)), (1, .int a1)]) hE.1 hE.2.1 dX11_terms_39 hl (k := 3) rfl (by rw [ex7]; rfl) (by decide) rfl (fun ls hl => ?_)
          refine lv_goto (tgt := 4) hE.1 hE.2.1 dX11_terms_42 (by decide) ?_
          exact hK4 _ _ _ _ _ _ _ hq hw (lv_sub hl [2, 3, 1, 0] rfl)
        · have hq := hq.2 c6
          refine lv_iload_n hE.1 hE.2.1 dX11_terms_33 rfl (lv_at hl 3 rfl) ?_
          refine lv_goto (tgt := 38) hE.1 hE.2.1 dX11_terms_34 (by decide) ?_
          refine lv_istore_n (lv' := [(2, .int a3), (0, .ref (gAd G 0)), (1, .int a1), (3, .int a3)]) hE.1 hE.2.1 dX11_terms_38 rfl hl (by decide) rfl (fun ls hl => ?_)
          obtain ⟨x8, ex8⟩ : ∃ y : Int32, y = a3 + 1 := ⟨_, rfl⟩
          have hq := hq x8 ex8
          refine lv_iinc (v := x8) (lv' := [(3, .int x8), (2, .int a3), (0, .ref (gAd G 0)), (1, .int a1)]) hE.1 hE.2.1 dX11_terms_39 hl (k := 3) rfl (by rw [ex8]; rfl) (by decide) rfl (fun ls hl => ?_)
          refine lv_goto (tgt := 4) hE.1 hE.2.1 dX11_terms_42 (by decide) ?_
          exact hK4 _ _ _ _ _ _ _ hq hw (lv_sub hl [2, 3, 1, 0] rfl)
theorem tl_X11_terms_b4 {p : Program} {l : Launch} {e : Env} {s : State} {m : MethodId} {args : Array Value} {below : List Frame} {meth : Method} {c : Code} {G : GG} {Φ : Int32 → S9 → Prop}  (hE : Ev 27 G p s m args c cX11_terms RX11) (hml : c.maxLocals = 4) (hr : meth.sig.returnType = (some .int)) (hlk : meth.locks = false)  : ∀ (n : Nat) (a1 : Int32) (a2 : Int32) (a3 : Int32) (σ : S9) (H : Heap) (locs : List Loc) (ls : Array Slot), lp_X11_terms_b4  Φ n a1 a2 a3 σ → Pic mwl 27 G σ s.heap H locs → lv_has ls 4 [(0, .ref (gAd G 0)), (1, .int a1), (2, .int a2), (3, .int a3)] → W p l e rm_X11_terms s m args below meth c H locs 0 0 (QI mwl 27 G below args s Φ) (F0 m 4 ls []) := by
  intro n
  induction n with
  | zero => intro _ _ _ _ _ _ _ hq; exact hq.elim
  | succ n ih => intro _ _ _ _ _ _ _ hq hw hl; exact tb_X11_terms_b4 hE hml hr hlk  ih hq hw hl
set_option maxRecDepth 20000 in
set_option maxHeartbeats 4000000 in
theorem c_X11_terms {G : GG} (hJ : gJ 27 G) (l : Launch) (a1 : Int32) (σ : S9) (Φ : Int32 → S9 → Prop) (hq : wp_X11_terms a1 σ Φ) : CI mwl 27 G l yX11_terms cX11_terms 4 (some .int) rm_X11_terms [.ref (gAd G 0), .int a1] σ Φ := by
  refine CI.intro (by decide) (Nat.le_of_ble_eq_true rfl) hJ ?_
  intro p e s m args below meth c ls hE hml hr hlk hw hl
  have hl : lv_has ls 4 [(0, .ref (gAd G 0)), (1, .int a1)] := hl
  unfold wp_X11_terms at hq
  refine lv_iconst (v := (-1 : Int32)) hE.1 hE.2.1 dX11_terms_0 (by decide) ?_
  refine lv_topi (fun x1 ex1 => ?_)
  have hq := hq x1 ex1
  refine lv_istore_n (lv' := [(2, .int x1), (0, .ref (gAd G 0)), (1, .int a1)]) hE.1 hE.2.1 dX11_terms_1 rfl hl (by decide) rfl (fun ls hl => ?_)
  refine lv_iconst (v := (0 : Int32)) hE.1 hE.2.1 dX11_terms_2 (by decide) ?_
  refine lv_topi (fun x2 ex2 => ?_)
  have hq := hq x2 ex2
  refine lv_istore_n (lv' := [(3, .int x2), (2, .int x1), (0, .ref (gAd G 0)), (1, .int a1)]) hE.1 hE.2.1 dX11_terms_3 rfl hl (by decide) rfl (fun ls hl => ?_)
  obtain ⟨nn, hq⟩ := hq
  exact tl_X11_terms_b4 hE hml hr hlk  nn _ _ _ _ _ _ _ hq hw (lv_sub hl [2, 3, 1, 0] rfl)
/-! QueueBenchModel.count(I)I -/
abbrev rm_X11_count : Room := { frames := 1, cells := 0, slots := 0, locals := 22 }
def wp_X11_count_b15  (Φ : Int32 → S9 → Prop) (a1 : Int32) (t0 : Int32) (σ : S9) : Prop := wp_X11_goes t0 (1 : Int32) σ (fun r1 σ1 => (r1 = 0 → Φ (0 : Int32) σ1) ∧ (¬ r1 = 0 → (a1 = (0 : Int32) → Φ (σ1.1 1) σ1) ∧ (¬ a1 = (0 : Int32) → (a1 = (1 : Int32) → ((σ1.1 10) = 0 → Φ (0 : Int32) σ1) ∧ (¬ (σ1.1 10) = 0 → Φ (σ1.1 8) σ1)) ∧ (¬ a1 = (1 : Int32) → (a1 = (2 : Int32) → ((σ1.1 10) = 0 → Φ (0 : Int32) σ1) ∧ (¬ (σ1.1 10) = 0 → Φ (σ1.1 13) σ1)) ∧ (¬ a1 = (2 : Int32) → Φ (σ1.1 22) σ1)))))
def wp_X11_count_b14  (Φ : Int32 → S9 → Prop) (a1 : Int32) (σ : S9) : Prop := wp_X11_count_b15  Φ a1 (0 : Int32) σ
def wp_X11_count (a1 : Int32) (σ : S9) (Φ : Int32 → S9 → Prop) : Prop := (a1 < 0 → wp_X11_count_b14  Φ a1 σ) ∧ (¬ a1 < 0 → ((3 : Int32) < a1 → wp_X11_count_b14  Φ a1 σ) ∧ (¬ (3 : Int32) < a1 → wp_X11_count_b15  Φ a1 (1 : Int32) σ))
theorem dX11_count_0 : decode cX11_count 0 = .ok (.aload_n 0, 1) := by decide +kernel
theorem dX11_count_1 : decode cX11_count 1 = .ok (.iload_n 1, 1) := by decide +kernel
theorem dX11_count_2 : decode cX11_count 2 = .ok (.ifCond .lt 12, 3) := by decide +kernel
theorem dX11_count_5 : decode cX11_count 5 = .ok (.iload_n 1, 1) := by decide +kernel
theorem dX11_count_6 : decode cX11_count 6 = .ok (.iconst 3, 1) := by decide +kernel
theorem dX11_count_7 : decode cX11_count 7 = .ok (.if_icmp .gt 7, 3) := by decide +kernel
theorem dX11_count_10 : decode cX11_count 10 = .ok (.iconst 1, 1) := by decide +kernel
theorem dX11_count_11 : decode cX11_count 11 = .ok (.goto 4, 3) := by decide +kernel
theorem dX11_count_14 : decode cX11_count 14 = .ok (.iconst 0, 1) := by decide +kernel
theorem dX11_count_15 : decode cX11_count 15 = .ok (.iconst 1, 1) := by decide +kernel
theorem dX11_count_16 : decode cX11_count 16 = .ok (.invokevirtual 100, 3) := by decide +kernel
theorem dX11_count_19 : decode cX11_count 19 = .ok (.ifCond .ne 5, 3) := by decide +kernel
theorem dX11_count_22 : decode cX11_count 22 = .ok (.iconst 0, 1) := by decide +kernel
theorem dX11_count_23 : decode cX11_count 23 = .ok (.ireturn, 1) := by decide +kernel
theorem dX11_count_24 : decode cX11_count 24 = .ok (.iload_n 1, 1) := by decide +kernel
theorem dX11_count_25 : decode cX11_count 25 = .ok (.tableswitch 64 0 2 #[27, 32, 48], 27) := by decide +kernel
theorem dX11_count_52 : decode cX11_count 52 = .ok (.aload_n 0, 1) := by decide +kernel
theorem dX11_count_53 : decode cX11_count 53 = .ok (.getfield 93, 3) := by decide +kernel
theorem dX11_count_56 : decode cX11_count 56 = .ok (.ireturn, 1) := by decide +kernel
theorem dX11_count_57 : decode cX11_count 57 = .ok (.aload_n 0, 1) := by decide +kernel
theorem dX11_count_58 : decode cX11_count 58 = .ok (.getfield 212, 3) := by decide +kernel
theorem dX11_count_61 : decode cX11_count 61 = .ok (.ifCond .eq 10, 3) := by decide +kernel
theorem dX11_count_64 : decode cX11_count 64 = .ok (.aload_n 0, 1) := by decide +kernel
theorem dX11_count_65 : decode cX11_count 65 = .ok (.getfield 150, 3) := by decide +kernel
theorem dX11_count_68 : decode cX11_count 68 = .ok (.goto 4, 3) := by decide +kernel
theorem dX11_count_71 : decode cX11_count 71 = .ok (.iconst 0, 1) := by decide +kernel
theorem dX11_count_72 : decode cX11_count 72 = .ok (.ireturn, 1) := by decide +kernel
theorem dX11_count_73 : decode cX11_count 73 = .ok (.aload_n 0, 1) := by decide +kernel
theorem dX11_count_74 : decode cX11_count 74 = .ok (.getfield 212, 3) := by decide +kernel
theorem dX11_count_77 : decode cX11_count 77 = .ok (.ifCond .eq 10, 3) := by decide +kernel
theorem dX11_count_80 : decode cX11_count 80 = .ok (.aload_n 0, 1) := by decide +kernel
theorem dX11_count_81 : decode cX11_count 81 = .ok (.getfield 189, 3) := by decide +kernel
theorem dX11_count_84 : decode cX11_count 84 = .ok (.goto 4, 3) := by decide +kernel
theorem dX11_count_87 : decode cX11_count 87 = .ok (.iconst 0, 1) := by decide +kernel
theorem dX11_count_88 : decode cX11_count 88 = .ok (.ireturn, 1) := by decide +kernel
theorem dX11_count_89 : decode cX11_count 89 = .ok (.aload_n 0, 1) := by decide +kernel
theorem dX11_count_90 : decode cX11_count 90 = .ok (.getfield 215, 3) := by decide +kernel
theorem dX11_count_93 : decode cX11_count 93 = .ok (.ireturn, 1) := by decide +kernel
set_option maxRecDepth 20000 in
set_option maxHeartbeats 4000000 in
theorem tb_X11_count_b15 {p : Program} {l : Launch} {e : Env} {s : State} {m : MethodId} {args : Array Value} {below : List Frame} {meth : Method} {c : Code} {G : GG} {Φ : Int32 → S9 → Prop}  (hE : Ev 27 G p s m args c cX11_count RX11) (hml : c.maxLocals = 2) (hr : meth.sig.returnType = (some .int)) (hlk : meth.locks = false)  {a1 : Int32} {t0 : Int32} {σ : S9} {H : Heap} {locs : List Loc} {ls : Array Slot} (hq : wp_X11_count_b15  Φ a1 t0 σ) (hw : Pic mwl 27 G σ s.heap H locs) (hl : lv_has ls 2 [(0, .ref (gAd G 0)), (1, .int a1)]) : W p l e rm_X11_count s m args below meth c H locs 0 0 (QI mwl 27 G below args s Φ) (F0 m 15 ls [.int t0, .ref (gAd G 0)]) := by
  unfold wp_X11_count_b15 at hq
  refine lv_iconst (v := (1 : Int32)) hE.1 hE.2.1 dX11_count_15 (by decide) ?_
  refine clVi (rest := []) (As := [.int t0, .int (1 : Int32)]) hE hml hl.1 hw (c_X11_goes hE.2.2.2.2.2 l _ _ _ _ hq) mu6 mu7 mu8 mu9 mu3 rfl (k := 2) (by decide +kernel) (by decide) (ci := 11) rfl (q0 := 0) rfl rfl rfl (Nat.le_of_ble_eq_true rfl) dX11_count_16 (by decide) (fun r1 σ1 hq H locs hw => ?_)
  refine lv_if_ne (tgt := 24) hE.1 hE.2.1 dX11_count_19 (by decide) (fun c2 => ?_) (fun c2 => ?_)
  · have hq := hq.2 c2
    refine lv_iload_n hE.1 hE.2.1 dX11_count_24 rfl (lv_at hl 1 rfl) ?_
    by_cases c3 : a1 = (0 : Int32)
    · have hq := hq.1 c3
      refine lv_tableH (off := 27) (tgt := 52) hE.1 hE.2.1 dX11_count_25 c3 (by decide) (by decide) (by decide) (by decide) ?_
      refine lv_aload_n hE.1 hE.2.1 dX11_count_52 rfl (lv_at hl 0 rfl) ?_
      refine mgf_X11_93 hE hw dX11_count_53 ?_
      exact rtI hE hr hlk hw hq dX11_count_56
    · have hq := hq.2 c3
      by_cases c4 : a1 = (1 : Int32)
      · have hq := hq.1 c4
        refine lv_tableH (off := 32) (tgt := 57) hE.1 hE.2.1 dX11_count_25 c4 (by decide) (by decide) (by decide) (by decide) ?_
        refine lv_aload_n hE.1 hE.2.1 dX11_count_57 rfl (lv_at hl 0 rfl) ?_
        refine mgf_X11_212 hE hw dX11_count_58 ?_
        refine lv_if_eq (tgt := 71) hE.1 hE.2.1 dX11_count_61 (by decide) (fun c5 => ?_) (fun c5 => ?_)
        · have hq := hq.1 c5
          refine lv_iconst (v := (0 : Int32)) hE.1 hE.2.1 dX11_count_71 (by decide) ?_
          exact rtI hE hr hlk hw hq dX11_count_72
        · have hq := hq.2 c5
          refine lv_aload_n hE.1 hE.2.1 dX11_count_64 rfl (lv_at hl 0 rfl) ?_
          refine mgf_X11_150 hE hw dX11_count_65 ?_
          refine lv_goto (tgt := 72) hE.1 hE.2.1 dX11_count_68 (by decide) ?_
          exact rtI hE hr hlk hw hq dX11_count_72
      · have hq := hq.2 c4
        by_cases c6 : a1 = (2 : Int32)
        · have hq := hq.1 c6
          refine lv_tableH (off := 48) (tgt := 73) hE.1 hE.2.1 dX11_count_25 c6 (by decide) (by decide) (by decide) (by decide) ?_
          refine lv_aload_n hE.1 hE.2.1 dX11_count_73 rfl (lv_at hl 0 rfl) ?_
          refine mgf_X11_212 hE hw dX11_count_74 ?_
          refine lv_if_eq (tgt := 87) hE.1 hE.2.1 dX11_count_77 (by decide) (fun c7 => ?_) (fun c7 => ?_)
          · have hq := hq.1 c7
            refine lv_iconst (v := (0 : Int32)) hE.1 hE.2.1 dX11_count_87 (by decide) ?_
            exact rtI hE hr hlk hw hq dX11_count_88
          · have hq := hq.2 c7
            refine lv_aload_n hE.1 hE.2.1 dX11_count_80 rfl (lv_at hl 0 rfl) ?_
            refine mgf_X11_189 hE hw dX11_count_81 ?_
            refine lv_goto (tgt := 88) hE.1 hE.2.1 dX11_count_84 (by decide) ?_
            exact rtI hE hr hlk hw hq dX11_count_88
        · have hq := hq.2 c6
          refine lv_tableD (ks := [0, 1, 2]) (tgt := 89) hE.1 hE.2.1 dX11_count_25 (by simp only [List.forall_mem_cons, List.not_mem_nil, false_implies, implies_true, and_true]; exact ⟨c3, c4, c6⟩) (by decide) (by decide) (by decide) ?_
          refine lv_aload_n hE.1 hE.2.1 dX11_count_89 rfl (lv_at hl 0 rfl) ?_
          refine mgf_X11_215 hE hw dX11_count_90 ?_
          exact rtI hE hr hlk hw hq dX11_count_93
  · have hq := hq.1 c2
    refine lv_iconst (v := (0 : Int32)) hE.1 hE.2.1 dX11_count_22 (by decide) ?_
    exact rtI hE hr hlk hw hq dX11_count_23
set_option maxRecDepth 20000 in
set_option maxHeartbeats 4000000 in
theorem tb_X11_count_b14 {p : Program} {l : Launch} {e : Env} {s : State} {m : MethodId} {args : Array Value} {below : List Frame} {meth : Method} {c : Code} {G : GG} {Φ : Int32 → S9 → Prop}  (hE : Ev 27 G p s m args c cX11_count RX11) (hml : c.maxLocals = 2) (hr : meth.sig.returnType = (some .int)) (hlk : meth.locks = false)  {a1 : Int32} {σ : S9} {H : Heap} {locs : List Loc} {ls : Array Slot} (hq : wp_X11_count_b14  Φ a1 σ) (hw : Pic mwl 27 G σ s.heap H locs) (hl : lv_has ls 2 [(0, .ref (gAd G 0)), (1, .int a1)]) : W p l e rm_X11_count s m args below meth c H locs 0 0 (QI mwl 27 G below args s Φ) (F0 m 14 ls [.ref (gAd G 0)]) := by
  unfold wp_X11_count_b14 at hq
  refine lv_iconst (v := (0 : Int32)) hE.1 hE.2.1 dX11_count_14 (by decide) ?_
  exact tb_X11_count_b15 hE hml hr hlk  hq hw (lv_sub hl [0, 1] rfl)
set_option maxRecDepth 20000 in
set_option maxHeartbeats 4000000 in
theorem c_X11_count {G : GG} (hJ : gJ 27 G) (l : Launch) (a1 : Int32) (σ : S9) (Φ : Int32 → S9 → Prop) (hq : wp_X11_count a1 σ Φ) : CI mwl 27 G l yX11_count cX11_count 2 (some .int) rm_X11_count [.ref (gAd G 0), .int a1] σ Φ := by
  refine CI.intro (by decide) (Nat.le_of_ble_eq_true rfl) hJ ?_
  intro p e s m args below meth c ls hE hml hr hlk hw hl
  have hl : lv_has ls 2 [(0, .ref (gAd G 0)), (1, .int a1)] := hl
  unfold wp_X11_count at hq
  refine lv_aload_n hE.1 hE.2.1 dX11_count_0 rfl (lv_at hl 0 rfl) ?_
  refine lv_iload_n hE.1 hE.2.1 dX11_count_1 rfl (lv_at hl 1 rfl) ?_
  refine lv_if_lt (tgt := 14) hE.1 hE.2.1 dX11_count_2 (by decide) (fun c1 => ?_) (fun c1 => ?_)
  · have hq := hq.1 c1
    exact tb_X11_count_b14 hE hml hr hlk  hq hw (lv_sub hl [0, 1] rfl)
  · have hq := hq.2 c1
    refine lv_iload_n hE.1 hE.2.1 dX11_count_5 rfl (lv_at hl 1 rfl) ?_
    refine lv_iconst (v := (3 : Int32)) hE.1 hE.2.1 dX11_count_6 (by decide) ?_
    refine lv_icmp_gt (tgt := 14) hE.1 hE.2.1 dX11_count_7 (by decide) (fun c2 => ?_) (fun c2 => ?_)
    · have hq := hq.1 c2
      exact tb_X11_count_b14 hE hml hr hlk  hq hw (lv_sub hl [0, 1] rfl)
    · have hq := hq.2 c2
      refine lv_iconst (v := (1 : Int32)) hE.1 hE.2.1 dX11_count_10 (by decide) ?_
      refine lv_goto (tgt := 15) hE.1 hE.2.1 dX11_count_11 (by decide) ?_
      exact tb_X11_count_b15 hE hml hr hlk  hq hw (lv_sub hl [0, 1] rfl)
