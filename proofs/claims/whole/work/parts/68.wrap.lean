/-! the law's ten static methods, each from its bytecode -/
theorem wu0 : Cond.code yX10_feed cX10_feed 7 (some .int) ∈ UW := inUW 628 (by decide +kernel) rfl
theorem wu1 : Cond.instanceMethod yX10_feed ∈ UW := inUW 626 (by decide +kernel) rfl
theorem wu2 : Cond.selects RX10 yX10_feed yX10_feed ∈ UW := inUW 627 (by decide +kernel) rfl
theorem wu3 : Cond.initialized RX10 ∈ UW := inUW 62 (by decide +kernel) rfl
theorem wu4 : Cond.methodLink RL 7 yX10_feed ∈ UW := inUW 625 (by decide +kernel) rfl
theorem wu5 : Cond.classLink "QueueBenchLaw" 13 "java/lang/IllegalStateException" ∈ UW := inUW 624 (by decide +kernel) rfl
theorem wu6 : Cond.code yX10_give cX10_give 2 (some .int) ∈ UW := inUW 710 (by decide +kernel) rfl
theorem wu7 : Cond.instanceMethod yX10_give ∈ UW := inUW 708 (by decide +kernel) rfl
theorem wu8 : Cond.selects RX10 yX10_give yX10_give ∈ UW := inUW 709 (by decide +kernel) rfl
theorem wu9 : Cond.methodLink RL 15 yX10_give ∈ UW := inUW 707 (by decide +kernel) rfl
theorem wu10 : Cond.code yX10_start cX10_start 1 none ∈ UW := inUW 722 (by decide +kernel) rfl
theorem wu11 : Cond.instanceMethod yX10_start ∈ UW := inUW 720 (by decide +kernel) rfl
theorem wu12 : Cond.selects RX10 yX10_start yX10_start ∈ UW := inUW 721 (by decide +kernel) rfl
theorem wu13 : Cond.methodLink RL 19 yX10_start ∈ UW := inUW 719 (by decide +kernel) rfl
theorem wu14 : Cond.code yX10_run cX10_run 2 (some .int) ∈ UW := inUW 736 (by decide +kernel) rfl
theorem wu15 : Cond.instanceMethod yX10_run ∈ UW := inUW 734 (by decide +kernel) rfl
theorem wu16 : Cond.selects RX10 yX10_run yX10_run ∈ UW := inUW 735 (by decide +kernel) rfl
theorem wu17 : Cond.methodLink RL 22 yX10_run ∈ UW := inUW 733 (by decide +kernel) rfl
theorem wu18 : Cond.classLink "QueueBenchLaw" 25 "java/lang/IllegalArgumentException" ∈ UW := inUW 732 (by decide +kernel) rfl
theorem wu19 : Cond.code yX10_state cX10_state 2 (some .int) ∈ UW := inUW 831 (by decide +kernel) rfl
theorem wu20 : Cond.instanceMethod yX10_state ∈ UW := inUW 829 (by decide +kernel) rfl
theorem wu21 : Cond.selects RX10 yX10_state yX10_state ∈ UW := inUW 830 (by decide +kernel) rfl
theorem wu22 : Cond.methodLink RL 27 yX10_state ∈ UW := inUW 828 (by decide +kernel) rfl
theorem wu23 : Cond.code yX10_output cX10_output 2 (some .int) ∈ UW := inUW 848 (by decide +kernel) rfl
theorem wu24 : Cond.instanceMethod yX10_output ∈ UW := inUW 846 (by decide +kernel) rfl
theorem wu25 : Cond.selects RX10 yX10_output yX10_output ∈ UW := inUW 847 (by decide +kernel) rfl
theorem wu26 : Cond.methodLink RL 30 yX10_output ∈ UW := inUW 845 (by decide +kernel) rfl
theorem wu27 : Cond.classLink "QueueBenchLaw" 33 "java/util/NoSuchElementException" ∈ UW := inUW 844 (by decide +kernel) rfl
theorem wu28 : Cond.code yX10_name cX10_name 2 (some .int) ∈ UW := inUW 879 (by decide +kernel) rfl
theorem wu29 : Cond.instanceMethod yX10_name ∈ UW := inUW 877 (by decide +kernel) rfl
theorem wu30 : Cond.selects RX10 yX10_name yX10_name ∈ UW := inUW 878 (by decide +kernel) rfl
theorem wu31 : Cond.methodLink RL 35 yX10_name ∈ UW := inUW 876 (by decide +kernel) rfl
theorem wu32 : Cond.code yX10_cell cX10_cell 2 (some .int) ∈ UW := inUW 887 (by decide +kernel) rfl
theorem wu33 : Cond.instanceMethod yX10_cell ∈ UW := inUW 885 (by decide +kernel) rfl
theorem wu34 : Cond.selects RX10 yX10_cell yX10_cell ∈ UW := inUW 886 (by decide +kernel) rfl
theorem wu35 : Cond.methodLink RL 38 yX10_cell ∈ UW := inUW 884 (by decide +kernel) rfl
theorem wu36 : Cond.code yX10_terms cX10_terms 3 (some .int) ∈ UW := inUW 896 (by decide +kernel) rfl
theorem wu37 : Cond.instanceMethod yX10_terms ∈ UW := inUW 894 (by decide +kernel) rfl
theorem wu38 : Cond.selects RX10 yX10_terms yX10_terms ∈ UW := inUW 895 (by decide +kernel) rfl
theorem wu39 : Cond.methodLink RL 41 yX10_terms ∈ UW := inUW 893 (by decide +kernel) rfl
theorem wu40 : Cond.code yX10_count cX10_count 2 (some .int) ∈ UW := inUW 927 (by decide +kernel) rfl
theorem wu41 : Cond.instanceMethod yX10_count ∈ UW := inUW 925 (by decide +kernel) rfl
theorem wu42 : Cond.selects RX10 yX10_count yX10_count ∈ UW := inUW 926 (by decide +kernel) rfl
theorem wu43 : Cond.methodLink RL 44 yX10_count ∈ UW := inUW 924 (by decide +kernel) rfl
/-! QueueBenchLaw.feed(LQueueBench;IIIII[J)I -/
abbrev rm_L_feed : Room := { frames := 7, cells := 1, slots := 6, locals := 116 }
theorem dL_feed_0 : decode cL_feed 0 = .ok (.aload 6, 2) := by decide +kernel
theorem dL_feed_2 : decode cL_feed 2 = .ok (.iconst 0, 1) := by decide +kernel
theorem dL_feed_3 : decode cL_feed 3 = .ok (.aload_n 0, 1) := by decide +kernel
theorem dL_feed_4 : decode cL_feed 4 = .ok (.iload_n 1, 1) := by decide +kernel
theorem dL_feed_5 : decode cL_feed 5 = .ok (.iload_n 2, 1) := by decide +kernel
theorem dL_feed_6 : decode cL_feed 6 = .ok (.iload_n 3, 1) := by decide +kernel
theorem dL_feed_7 : decode cL_feed 7 = .ok (.iload 4, 2) := by decide +kernel
theorem dL_feed_9 : decode cL_feed 9 = .ok (.iload 5, 2) := by decide +kernel
theorem dL_feed_11 : decode cL_feed 11 = .ok (.invokevirtual 7, 3) := by decide +kernel
theorem dL_feed_14 : decode cL_feed 14 = .ok (.i2l, 1) := by decide +kernel
theorem dL_feed_15 : decode cL_feed 15 = .ok (.lastore, 1) := by decide +kernel
theorem dL_feed_16 : decode cL_feed 16 = .ok (.goto 7, 3) := by decide +kernel
theorem dL_feed_19 : decode cL_feed 19 = .ok (.astore 7, 2) := by decide +kernel
theorem dL_feed_21 : decode cL_feed 21 = .ok (.iconst 1, 1) := by decide +kernel
theorem dL_feed_22 : decode cL_feed 22 = .ok (.ireturn, 1) := by decide +kernel
theorem dL_feed_23 : decode cL_feed 23 = .ok (.iconst 0, 1) := by decide +kernel
theorem dL_feed_24 : decode cL_feed 24 = .ok (.ireturn, 1) := by decide +kernel
set_option maxRecDepth 20000 in
set_option maxHeartbeats 4000000 in
theorem w_feed {G : GG} (hJ : gJ 40 G) (l : Launch) (hst : l.stackTraces = false) {cJ : ClassId} {o : Nat} (ho : oOk G o) (a1 : Int32) (a2 : Int32) (a3 : Int32) (a4 : Int32) (a5 : Int32) (σ : S9) (f : Nat → Int64) (Ψ : Int32 → S9 → (Nat → Int64) → Prop) (hq : wx_X10_feed a1 a2 a3 a4 a5 σ (fun r σ1 => Ψ 0 σ1 (vp_updL f 0 r.toInt64)) (fun k σ1 => Ψ k σ1 f)) : WC G l cJ o yL_feed cL_feed 8 [(0, 16, 19, 13)] rm_L_feed [.ref (gAd G 0), .int a1, .int a2, .int a3, .int a4, .int a5, .ref o] σ f Ψ := by
  refine WC.intro (by decide) (Nat.le_of_ble_eq_true rfl) hJ ?_
  intro p e s m args below meth c ls hE hT hKJ htab hml hr hlk hw hl
  have hl : lv_has ls 8 [(0, .ref (gAd G 0)), (1, .int a1), (2, .int a2), (3, .int a3), (4, .int a4), (5, .int a5), (6, .ref o)] := hl
  refine lv_aload hE.1 hE.2.1 dL_feed_0 (lv_at hl 6 rfl) ?_
  refine lv_iconst (v := 0) hE.1 hE.2.1 dL_feed_2 (by decide) ?_
  refine lv_aload_n hE.1 hE.2.1 dL_feed_3 rfl (lv_at hl 0 rfl) ?_
  refine lv_iload_n hE.1 hE.2.1 dL_feed_4 rfl (lv_at hl 1 rfl) ?_
  refine lv_iload_n hE.1 hE.2.1 dL_feed_5 rfl (lv_at hl 2 rfl) ?_
  refine lv_iload_n hE.1 hE.2.1 dL_feed_6 rfl (lv_at hl 3 rfl) ?_
  refine lv_iload hE.1 hE.2.1 dL_feed_7 (lv_at hl 4 rfl) ?_
  refine lv_iload hE.1 hE.2.1 dL_feed_9 (lv_at hl 5 rfl) ?_
  refine wCall (rest := [.int 0, .ref o]) (As := [.int a1, .int a2, .int a3, .int a4, .int a5]) hE hT ho hml hl.1 hw (x_X10_feed hJ l hst _ _ _ _ _ _ _ _ hq) wu0 wu4 wu1 wu2 wu3 rfl (k := 5) (by decide +kernel) (by decide) rfl rfl (Nat.le_of_ble_eq_true rfl) dL_feed_11 (by decide) (fun E j ce q9 σ1 H locs hj hq hw h1 h2 h3 => ?_) (fun r σ1 H locs hq hw => ?_)
  · obtain ⟨rfl, rfl⟩ := Prod.mk.inj (List.mem_singleton.mp hj)
    refine vx_catch (own := RL) (name := nISE) hE.2.2.1 [] ⟨0, 16, 19, 13⟩ [] (htab.trans rfl) (fun z hz => nomatch hz) (by decide) (by decide) (hE.2.2.2.1 _ wu5) (hT.cast (inTW 634 (by decide +kernel) rfl)) h1 h2 h3 ?_
    refine W.eq (g2 := F0 m 19 ls [.ref q9]) rfl ?_
    refine lv_astore (lv' := [(7, .ref q9), (0, .ref (gAd G 0)), (1, .int a1), (2, .int a2), (3, .int a3), (4, .int a4), (5, .int a5), (6, .ref o)]) hE.1 hE.2.1 dL_feed_19 hl (by decide) rfl (fun ls hl => ?_)
    refine lv_iconst (v := 1) hE.1 hE.2.1 dL_feed_21 (by decide) ?_
    exact wRet hE hr hlk hw hq dL_feed_22
  · refine lv_i2l (v := r.toInt64) hE.1 hE.2.1 dL_feed_14 rfl ?_
    refine wLast hE hKJ ho hw dL_feed_15 (fun H locs hw => ?_)
    refine lv_goto (tgt := 23) hE.1 hE.2.1 dL_feed_16 (by decide) ?_
    refine lv_iconst (v := 0) hE.1 hE.2.1 dL_feed_23 (by decide) ?_
    exact wRet hE hr hlk hw hq dL_feed_24
/-! QueueBenchLaw.give(LQueueBench;I[J)I -/
abbrev rm_L_give : Room := { frames := 7, cells := 1, slots := 6, locals := 111 }
theorem dL_give_0 : decode cL_give 0 = .ok (.aload_n 2, 1) := by decide +kernel
theorem dL_give_1 : decode cL_give 1 = .ok (.iconst 0, 1) := by decide +kernel
theorem dL_give_2 : decode cL_give 2 = .ok (.aload_n 0, 1) := by decide +kernel
theorem dL_give_3 : decode cL_give 3 = .ok (.iload_n 1, 1) := by decide +kernel
theorem dL_give_4 : decode cL_give 4 = .ok (.invokevirtual 15, 3) := by decide +kernel
theorem dL_give_7 : decode cL_give 7 = .ok (.i2l, 1) := by decide +kernel
theorem dL_give_8 : decode cL_give 8 = .ok (.lastore, 1) := by decide +kernel
theorem dL_give_9 : decode cL_give 9 = .ok (.goto 6, 3) := by decide +kernel
theorem dL_give_12 : decode cL_give 12 = .ok (.astore_n 3, 1) := by decide +kernel
theorem dL_give_13 : decode cL_give 13 = .ok (.iconst 1, 1) := by decide +kernel
theorem dL_give_14 : decode cL_give 14 = .ok (.ireturn, 1) := by decide +kernel
theorem dL_give_15 : decode cL_give 15 = .ok (.iconst 0, 1) := by decide +kernel
theorem dL_give_16 : decode cL_give 16 = .ok (.ireturn, 1) := by decide +kernel
set_option maxRecDepth 20000 in
set_option maxHeartbeats 4000000 in
theorem w_give {G : GG} (hJ : gJ 40 G) (l : Launch) (hst : l.stackTraces = false) {cJ : ClassId} {o : Nat} (ho : oOk G o) (a1 : Int32) (σ : S9) (f : Nat → Int64) (Ψ : Int32 → S9 → (Nat → Int64) → Prop) (hq : wx_X10_give a1 σ (fun r σ1 => Ψ 0 σ1 (vp_updL f 0 r.toInt64)) (fun k σ1 => Ψ k σ1 f)) : WC G l cJ o yL_give cL_give 4 [(0, 9, 12, 13)] rm_L_give [.ref (gAd G 0), .int a1, .ref o] σ f Ψ := by
  refine WC.intro (by decide) (Nat.le_of_ble_eq_true rfl) hJ ?_
  intro p e s m args below meth c ls hE hT hKJ htab hml hr hlk hw hl
  have hl : lv_has ls 4 [(0, .ref (gAd G 0)), (1, .int a1), (2, .ref o)] := hl
  refine lv_aload_n hE.1 hE.2.1 dL_give_0 rfl (lv_at hl 2 rfl) ?_
  refine lv_iconst (v := 0) hE.1 hE.2.1 dL_give_1 (by decide) ?_
  refine lv_aload_n hE.1 hE.2.1 dL_give_2 rfl (lv_at hl 0 rfl) ?_
  refine lv_iload_n hE.1 hE.2.1 dL_give_3 rfl (lv_at hl 1 rfl) ?_
  refine wCall (rest := [.int 0, .ref o]) (As := [.int a1]) hE hT ho hml hl.1 hw (x_X10_give hJ l hst _ _ _ _ hq) wu6 wu9 wu7 wu8 wu3 rfl (k := 1) (by decide +kernel) (by decide) rfl rfl (Nat.le_of_ble_eq_true rfl) dL_give_4 (by decide) (fun E j ce q9 σ1 H locs hj hq hw h1 h2 h3 => ?_) (fun r σ1 H locs hq hw => ?_)
  · obtain ⟨rfl, rfl⟩ := Prod.mk.inj (List.mem_singleton.mp hj)
    refine vx_catch (own := RL) (name := nISE) hE.2.2.1 [] ⟨0, 9, 12, 13⟩ [] (htab.trans rfl) (fun z hz => nomatch hz) (by decide) (by decide) (hE.2.2.2.1 _ wu5) (hT.cast (inTW 634 (by decide +kernel) rfl)) h1 h2 h3 ?_
    refine W.eq (g2 := F0 m 12 ls [.ref q9]) rfl ?_
    refine lv_astore_n (lv' := [(3, .ref q9), (0, .ref (gAd G 0)), (1, .int a1), (2, .ref o)]) hE.1 hE.2.1 dL_give_12 rfl hl (by decide) rfl (fun ls hl => ?_)
    refine lv_iconst (v := 1) hE.1 hE.2.1 dL_give_13 (by decide) ?_
    exact wRet hE hr hlk hw hq dL_give_14
  · refine lv_i2l (v := r.toInt64) hE.1 hE.2.1 dL_give_7 rfl ?_
    refine wLast hE hKJ ho hw dL_give_8 (fun H locs hw => ?_)
    refine lv_goto (tgt := 15) hE.1 hE.2.1 dL_give_9 (by decide) ?_
    refine lv_iconst (v := 0) hE.1 hE.2.1 dL_give_15 (by decide) ?_
    exact wRet hE hr hlk hw hq dL_give_16
/-! QueueBenchLaw.start(LQueueBench;)I -/
abbrev rm_L_start : Room := { frames := 7, cells := 1, slots := 6, locals := 110 }
theorem dL_start_0 : decode cL_start 0 = .ok (.aload_n 0, 1) := by decide +kernel
theorem dL_start_1 : decode cL_start 1 = .ok (.invokevirtual 19, 3) := by decide +kernel
theorem dL_start_4 : decode cL_start 4 = .ok (.goto 6, 3) := by decide +kernel
theorem dL_start_7 : decode cL_start 7 = .ok (.astore_n 1, 1) := by decide +kernel
theorem dL_start_8 : decode cL_start 8 = .ok (.iconst 1, 1) := by decide +kernel
theorem dL_start_9 : decode cL_start 9 = .ok (.ireturn, 1) := by decide +kernel
theorem dL_start_10 : decode cL_start 10 = .ok (.iconst 0, 1) := by decide +kernel
theorem dL_start_11 : decode cL_start 11 = .ok (.ireturn, 1) := by decide +kernel
set_option maxRecDepth 20000 in
set_option maxHeartbeats 4000000 in
theorem w_start {G : GG} (hJ : gJ 40 G) (l : Launch) (hst : l.stackTraces = false) {cJ : ClassId} {o : Nat} (ho : oOk G o)  (σ : S9) (f : Nat → Int64) (Ψ : Int32 → S9 → (Nat → Int64) → Prop) (hq : wx_X10_start  σ (fun σ1 => Ψ 0 σ1 f) (fun k σ1 => Ψ k σ1 f)) : WC G l cJ o yL_start cL_start 2 [(0, 4, 7, 13)] rm_L_start [.ref (gAd G 0)] σ f Ψ := by
  refine WC.intro (by decide) (Nat.le_of_ble_eq_true rfl) hJ ?_
  intro p e s m args below meth c ls hE hT hKJ htab hml hr hlk hw hl
  have hl : lv_has ls 2 [(0, .ref (gAd G 0))] := hl
  refine lv_aload_n hE.1 hE.2.1 dL_start_0 rfl (lv_at hl 0 rfl) ?_
  refine wCallv (rest := []) (As := []) hE hT ho hml hl.1 hw (x_X10_start hJ l hst _ _ _ hq) wu10 wu13 wu11 wu12 wu3 rfl (k := 0) (by decide +kernel) (by decide) rfl rfl (Nat.le_of_ble_eq_true rfl) dL_start_1 (by decide) (fun E j ce q9 σ1 H locs hj hq hw h1 h2 h3 => ?_) (fun σ1 H locs hq hw => ?_)
  · obtain ⟨rfl, rfl⟩ := Prod.mk.inj (List.mem_singleton.mp hj)
    refine vx_catch (own := RL) (name := nISE) hE.2.2.1 [] ⟨0, 4, 7, 13⟩ [] (htab.trans rfl) (fun z hz => nomatch hz) (by decide) (by decide) (hE.2.2.2.1 _ wu5) (hT.cast (inTW 634 (by decide +kernel) rfl)) h1 h2 h3 ?_
    refine W.eq (g2 := F0 m 7 ls [.ref q9]) rfl ?_
    refine lv_astore_n (lv' := [(1, .ref q9), (0, .ref (gAd G 0))]) hE.1 hE.2.1 dL_start_7 rfl hl (by decide) rfl (fun ls hl => ?_)
    refine lv_iconst (v := 1) hE.1 hE.2.1 dL_start_8 (by decide) ?_
    exact wRet hE hr hlk hw hq dL_start_9
  · refine lv_goto (tgt := 10) hE.1 hE.2.1 dL_start_4 (by decide) ?_
    refine lv_iconst (v := 0) hE.1 hE.2.1 dL_start_10 (by decide) ?_
    exact wRet hE hr hlk hw hq dL_start_11
/-! QueueBenchLaw.run(LQueueBench;I[J)I -/
abbrev rm_L_run : Room := { frames := 8, cells := 1, slots := 6, locals := 170 }
theorem dL_run_0 : decode cL_run 0 = .ok (.aload_n 2, 1) := by decide +kernel
theorem dL_run_1 : decode cL_run 1 = .ok (.iconst 0, 1) := by decide +kernel
theorem dL_run_2 : decode cL_run 2 = .ok (.aload_n 0, 1) := by decide +kernel
theorem dL_run_3 : decode cL_run 3 = .ok (.iload_n 1, 1) := by decide +kernel
theorem dL_run_4 : decode cL_run 4 = .ok (.invokevirtual 22, 3) := by decide +kernel
theorem dL_run_7 : decode cL_run 7 = .ok (.i2l, 1) := by decide +kernel
theorem dL_run_8 : decode cL_run 8 = .ok (.lastore, 1) := by decide +kernel
theorem dL_run_9 : decode cL_run 9 = .ok (.goto 9, 3) := by decide +kernel
theorem dL_run_12 : decode cL_run 12 = .ok (.astore_n 3, 1) := by decide +kernel
theorem dL_run_13 : decode cL_run 13 = .ok (.iconst 1, 1) := by decide +kernel
theorem dL_run_14 : decode cL_run 14 = .ok (.ireturn, 1) := by decide +kernel
theorem dL_run_15 : decode cL_run 15 = .ok (.astore_n 3, 1) := by decide +kernel
theorem dL_run_16 : decode cL_run 16 = .ok (.iconst 2, 1) := by decide +kernel
theorem dL_run_17 : decode cL_run 17 = .ok (.ireturn, 1) := by decide +kernel
theorem dL_run_18 : decode cL_run 18 = .ok (.iconst 0, 1) := by decide +kernel
theorem dL_run_19 : decode cL_run 19 = .ok (.ireturn, 1) := by decide +kernel
set_option maxRecDepth 20000 in
set_option maxHeartbeats 4000000 in
theorem w_run {G : GG} (hJ : gJ 40 G) (l : Launch) (hst : l.stackTraces = false) {cJ : ClassId} {o : Nat} (ho : oOk G o) (a1 : Int32) (σ : S9) (f : Nat → Int64) (Ψ : Int32 → S9 → (Nat → Int64) → Prop) (hq : wx_X10_run a1 σ (fun r σ1 => Ψ 0 σ1 (vp_updL f 0 r.toInt64)) (fun k σ1 => Ψ k σ1 f)) : WC G l cJ o yL_run cL_run 4 [(0, 9, 12, 25), (0, 9, 15, 13)] rm_L_run [.ref (gAd G 0), .int a1, .ref o] σ f Ψ := by
  refine WC.intro (by decide) (Nat.le_of_ble_eq_true rfl) hJ ?_
  intro p e s m args below meth c ls hE hT hKJ htab hml hr hlk hw hl
  have hl : lv_has ls 4 [(0, .ref (gAd G 0)), (1, .int a1), (2, .ref o)] := hl
  refine lv_aload_n hE.1 hE.2.1 dL_run_0 rfl (lv_at hl 2 rfl) ?_
  refine lv_iconst (v := 0) hE.1 hE.2.1 dL_run_1 (by decide) ?_
  refine lv_aload_n hE.1 hE.2.1 dL_run_2 rfl (lv_at hl 0 rfl) ?_
  refine lv_iload_n hE.1 hE.2.1 dL_run_3 rfl (lv_at hl 1 rfl) ?_
  refine wCall (rest := [.int 0, .ref o]) (As := [.int a1]) hE hT ho hml hl.1 hw (x_X10_run hJ l hst _ _ _ _ hq) wu14 wu17 wu15 wu16 wu3 rfl (k := 1) (by decide +kernel) (by decide) rfl rfl (Nat.le_of_ble_eq_true rfl) dL_run_4 (by decide) (fun E j ce q9 σ1 H locs hj hq hw h1 h2 h3 => ?_) (fun r σ1 H locs hq hw => ?_)
  · rcases List.mem_cons.mp hj with hj | hj
    · obtain ⟨rfl, rfl⟩ := Prod.mk.inj hj
      refine vx_catch (own := RL) (name := nIAE) hE.2.2.1 [] ⟨0, 9, 12, 25⟩ [⟨0, 9, 15, 13⟩] (htab.trans rfl) (fun z hz => nomatch hz) (by decide) (by decide) (hE.2.2.2.1 _ wu18) (hT.cast (inTW 739 (by decide +kernel) rfl)) h1 h2 h3 ?_
      refine W.eq (g2 := F0 m 12 ls [.ref q9]) rfl ?_
      refine lv_astore_n (lv' := [(3, .ref q9), (0, .ref (gAd G 0)), (1, .int a1), (2, .ref o)]) hE.1 hE.2.1 dL_run_12 rfl hl (by decide) rfl (fun ls hl => ?_)
      refine lv_iconst (v := 1) hE.1 hE.2.1 dL_run_13 (by decide) ?_
      exact wRet hE hr hlk hw hq dL_run_14
    · obtain ⟨rfl, rfl⟩ := Prod.mk.inj (List.mem_singleton.mp hj)
      refine vx_catch (own := RL) (name := nISE) hE.2.2.1 [⟨0, 9, 12, 25⟩] ⟨0, 9, 15, 13⟩ [] (htab.trans rfl) (fun z hz => by rw [List.mem_singleton.mp hz]; exact Or.inr ⟨by decide, nIAE, hE.2.2.2.1 _ wu18, hT.2.2.2.2⟩) (by decide) (by decide) (hE.2.2.2.1 _ wu5) (hT.cast (inTW 634 (by decide +kernel) rfl)) h1 h2 h3 ?_
      refine W.eq (g2 := F0 m 15 ls [.ref q9]) rfl ?_
      refine lv_astore_n (lv' := [(3, .ref q9), (0, .ref (gAd G 0)), (1, .int a1), (2, .ref o)]) hE.1 hE.2.1 dL_run_15 rfl hl (by decide) rfl (fun ls hl => ?_)
      refine lv_iconst (v := 2) hE.1 hE.2.1 dL_run_16 (by decide) ?_
      exact wRet hE hr hlk hw hq dL_run_17
  · refine lv_i2l (v := r.toInt64) hE.1 hE.2.1 dL_run_7 rfl ?_
    refine wLast hE hKJ ho hw dL_run_8 (fun H locs hw => ?_)
    refine lv_goto (tgt := 18) hE.1 hE.2.1 dL_run_9 (by decide) ?_
    refine lv_iconst (v := 0) hE.1 hE.2.1 dL_run_18 (by decide) ?_
    exact wRet hE hr hlk hw hq dL_run_19
/-! QueueBenchLaw.state(LQueueBench;I[J)I -/
abbrev rm_L_state : Room := { frames := 7, cells := 1, slots := 6, locals := 111 }
theorem dL_state_0 : decode cL_state 0 = .ok (.aload_n 2, 1) := by decide +kernel
theorem dL_state_1 : decode cL_state 1 = .ok (.iconst 0, 1) := by decide +kernel
theorem dL_state_2 : decode cL_state 2 = .ok (.aload_n 0, 1) := by decide +kernel
theorem dL_state_3 : decode cL_state 3 = .ok (.iload_n 1, 1) := by decide +kernel
theorem dL_state_4 : decode cL_state 4 = .ok (.invokevirtual 27, 3) := by decide +kernel
theorem dL_state_7 : decode cL_state 7 = .ok (.i2l, 1) := by decide +kernel
theorem dL_state_8 : decode cL_state 8 = .ok (.lastore, 1) := by decide +kernel
theorem dL_state_9 : decode cL_state 9 = .ok (.goto 9, 3) := by decide +kernel
theorem dL_state_12 : decode cL_state 12 = .ok (.astore_n 3, 1) := by decide +kernel
theorem dL_state_13 : decode cL_state 13 = .ok (.iconst 1, 1) := by decide +kernel
theorem dL_state_14 : decode cL_state 14 = .ok (.ireturn, 1) := by decide +kernel
theorem dL_state_15 : decode cL_state 15 = .ok (.astore_n 3, 1) := by decide +kernel
theorem dL_state_16 : decode cL_state 16 = .ok (.iconst 2, 1) := by decide +kernel
theorem dL_state_17 : decode cL_state 17 = .ok (.ireturn, 1) := by decide +kernel
theorem dL_state_18 : decode cL_state 18 = .ok (.iconst 0, 1) := by decide +kernel
theorem dL_state_19 : decode cL_state 19 = .ok (.ireturn, 1) := by decide +kernel
set_option maxRecDepth 20000 in
set_option maxHeartbeats 4000000 in
theorem w_state {G : GG} (hJ : gJ 40 G) (l : Launch) (hst : l.stackTraces = false) {cJ : ClassId} {o : Nat} (ho : oOk G o) (a1 : Int32) (σ : S9) (f : Nat → Int64) (Ψ : Int32 → S9 → (Nat → Int64) → Prop) (hq : wx_X10_state a1 σ (fun r σ1 => Ψ 0 σ1 (vp_updL f 0 r.toInt64)) (fun k σ1 => Ψ k σ1 f)) : WC G l cJ o yL_state cL_state 4 [(0, 9, 12, 25), (0, 9, 15, 13)] rm_L_state [.ref (gAd G 0), .int a1, .ref o] σ f Ψ := by
  refine WC.intro (by decide) (Nat.le_of_ble_eq_true rfl) hJ ?_
  intro p e s m args below meth c ls hE hT hKJ htab hml hr hlk hw hl
  have hl : lv_has ls 4 [(0, .ref (gAd G 0)), (1, .int a1), (2, .ref o)] := hl
  refine lv_aload_n hE.1 hE.2.1 dL_state_0 rfl (lv_at hl 2 rfl) ?_
  refine lv_iconst (v := 0) hE.1 hE.2.1 dL_state_1 (by decide) ?_
  refine lv_aload_n hE.1 hE.2.1 dL_state_2 rfl (lv_at hl 0 rfl) ?_
  refine lv_iload_n hE.1 hE.2.1 dL_state_3 rfl (lv_at hl 1 rfl) ?_
  refine wCall (rest := [.int 0, .ref o]) (As := [.int a1]) hE hT ho hml hl.1 hw (x_X10_state hJ l hst _ _ _ _ hq) wu19 wu22 wu20 wu21 wu3 rfl (k := 1) (by decide +kernel) (by decide) rfl rfl (Nat.le_of_ble_eq_true rfl) dL_state_4 (by decide) (fun E j ce q9 σ1 H locs hj hq hw h1 h2 h3 => ?_) (fun r σ1 H locs hq hw => ?_)
  · rcases List.mem_cons.mp hj with hj | hj
    · obtain ⟨rfl, rfl⟩ := Prod.mk.inj hj
      refine vx_catch (own := RL) (name := nIAE) hE.2.2.1 [] ⟨0, 9, 12, 25⟩ [⟨0, 9, 15, 13⟩] (htab.trans rfl) (fun z hz => nomatch hz) (by decide) (by decide) (hE.2.2.2.1 _ wu18) (hT.cast (inTW 739 (by decide +kernel) rfl)) h1 h2 h3 ?_
      refine W.eq (g2 := F0 m 12 ls [.ref q9]) rfl ?_
      refine lv_astore_n (lv' := [(3, .ref q9), (0, .ref (gAd G 0)), (1, .int a1), (2, .ref o)]) hE.1 hE.2.1 dL_state_12 rfl hl (by decide) rfl (fun ls hl => ?_)
      refine lv_iconst (v := 1) hE.1 hE.2.1 dL_state_13 (by decide) ?_
      exact wRet hE hr hlk hw hq dL_state_14
    · obtain ⟨rfl, rfl⟩ := Prod.mk.inj (List.mem_singleton.mp hj)
      refine vx_catch (own := RL) (name := nISE) hE.2.2.1 [⟨0, 9, 12, 25⟩] ⟨0, 9, 15, 13⟩ [] (htab.trans rfl) (fun z hz => by rw [List.mem_singleton.mp hz]; exact Or.inr ⟨by decide, nIAE, hE.2.2.2.1 _ wu18, hT.2.2.2.2⟩) (by decide) (by decide) (hE.2.2.2.1 _ wu5) (hT.cast (inTW 634 (by decide +kernel) rfl)) h1 h2 h3 ?_
      refine W.eq (g2 := F0 m 15 ls [.ref q9]) rfl ?_
      refine lv_astore_n (lv' := [(3, .ref q9), (0, .ref (gAd G 0)), (1, .int a1), (2, .ref o)]) hE.1 hE.2.1 dL_state_15 rfl hl (by decide) rfl (fun ls hl => ?_)
      refine lv_iconst (v := 2) hE.1 hE.2.1 dL_state_16 (by decide) ?_
      exact wRet hE hr hlk hw hq dL_state_17
  · refine lv_i2l (v := r.toInt64) hE.1 hE.2.1 dL_state_7 rfl ?_
    refine wLast hE hKJ ho hw dL_state_8 (fun H locs hw => ?_)
    refine lv_goto (tgt := 18) hE.1 hE.2.1 dL_state_9 (by decide) ?_
    refine lv_iconst (v := 0) hE.1 hE.2.1 dL_state_18 (by decide) ?_
    exact wRet hE hr hlk hw hq dL_state_19
/-! QueueBenchLaw.output(LQueueBench;I[J)I -/
abbrev rm_L_output : Room := { frames := 7, cells := 1, slots := 6, locals := 111 }
theorem dL_output_0 : decode cL_output 0 = .ok (.aload_n 2, 1) := by decide +kernel
theorem dL_output_1 : decode cL_output 1 = .ok (.iconst 0, 1) := by decide +kernel
theorem dL_output_2 : decode cL_output 2 = .ok (.aload_n 0, 1) := by decide +kernel
theorem dL_output_3 : decode cL_output 3 = .ok (.iload_n 1, 1) := by decide +kernel
theorem dL_output_4 : decode cL_output 4 = .ok (.invokevirtual 30, 3) := by decide +kernel
theorem dL_output_7 : decode cL_output 7 = .ok (.i2l, 1) := by decide +kernel
theorem dL_output_8 : decode cL_output 8 = .ok (.lastore, 1) := by decide +kernel
theorem dL_output_9 : decode cL_output 9 = .ok (.goto 6, 3) := by decide +kernel
theorem dL_output_12 : decode cL_output 12 = .ok (.astore_n 3, 1) := by decide +kernel
theorem dL_output_13 : decode cL_output 13 = .ok (.iconst 1, 1) := by decide +kernel
theorem dL_output_14 : decode cL_output 14 = .ok (.ireturn, 1) := by decide +kernel
theorem dL_output_15 : decode cL_output 15 = .ok (.iconst 0, 1) := by decide +kernel
theorem dL_output_16 : decode cL_output 16 = .ok (.ireturn, 1) := by decide +kernel
set_option maxRecDepth 20000 in
set_option maxHeartbeats 4000000 in
theorem w_output {G : GG} (hJ : gJ 40 G) (l : Launch) (hst : l.stackTraces = false) {cJ : ClassId} {o : Nat} (ho : oOk G o) (a1 : Int32) (σ : S9) (f : Nat → Int64) (Ψ : Int32 → S9 → (Nat → Int64) → Prop) (hq : wx_X10_output a1 σ (fun r σ1 => Ψ 0 σ1 (vp_updL f 0 r.toInt64)) (fun k σ1 => Ψ k σ1 f)) : WC G l cJ o yL_output cL_output 4 [(0, 9, 12, 33)] rm_L_output [.ref (gAd G 0), .int a1, .ref o] σ f Ψ := by
  refine WC.intro (by decide) (Nat.le_of_ble_eq_true rfl) hJ ?_
  intro p e s m args below meth c ls hE hT hKJ htab hml hr hlk hw hl
  have hl : lv_has ls 4 [(0, .ref (gAd G 0)), (1, .int a1), (2, .ref o)] := hl
  refine lv_aload_n hE.1 hE.2.1 dL_output_0 rfl (lv_at hl 2 rfl) ?_
  refine lv_iconst (v := 0) hE.1 hE.2.1 dL_output_1 (by decide) ?_
  refine lv_aload_n hE.1 hE.2.1 dL_output_2 rfl (lv_at hl 0 rfl) ?_
  refine lv_iload_n hE.1 hE.2.1 dL_output_3 rfl (lv_at hl 1 rfl) ?_
  refine wCall (rest := [.int 0, .ref o]) (As := [.int a1]) hE hT ho hml hl.1 hw (x_X10_output hJ l hst _ _ _ _ hq) wu23 wu26 wu24 wu25 wu3 rfl (k := 1) (by decide +kernel) (by decide) rfl rfl (Nat.le_of_ble_eq_true rfl) dL_output_4 (by decide) (fun E j ce q9 σ1 H locs hj hq hw h1 h2 h3 => ?_) (fun r σ1 H locs hq hw => ?_)
  · obtain ⟨rfl, rfl⟩ := Prod.mk.inj (List.mem_singleton.mp hj)
    refine vx_catch (own := RL) (name := nNSE) hE.2.2.1 [] ⟨0, 9, 12, 33⟩ [] (htab.trans rfl) (fun z hz => nomatch hz) (by decide) (by decide) (hE.2.2.2.1 _ wu27) (hT.cast (inTW 855 (by decide +kernel) rfl)) h1 h2 h3 ?_
    refine W.eq (g2 := F0 m 12 ls [.ref q9]) rfl ?_
    refine lv_astore_n (lv' := [(3, .ref q9), (0, .ref (gAd G 0)), (1, .int a1), (2, .ref o)]) hE.1 hE.2.1 dL_output_12 rfl hl (by decide) rfl (fun ls hl => ?_)
    refine lv_iconst (v := 1) hE.1 hE.2.1 dL_output_13 (by decide) ?_
    exact wRet hE hr hlk hw hq dL_output_14
  · refine lv_i2l (v := r.toInt64) hE.1 hE.2.1 dL_output_7 rfl ?_
    refine wLast hE hKJ ho hw dL_output_8 (fun H locs hw => ?_)
    refine lv_goto (tgt := 15) hE.1 hE.2.1 dL_output_9 (by decide) ?_
    refine lv_iconst (v := 0) hE.1 hE.2.1 dL_output_15 (by decide) ?_
    exact wRet hE hr hlk hw hq dL_output_16
/-! QueueBenchLaw.name(LQueueBench;I[J)I -/
abbrev rm_L_name : Room := { frames := 7, cells := 1, slots := 6, locals := 111 }
theorem dL_name_0 : decode cL_name 0 = .ok (.aload_n 2, 1) := by decide +kernel
theorem dL_name_1 : decode cL_name 1 = .ok (.iconst 0, 1) := by decide +kernel
theorem dL_name_2 : decode cL_name 2 = .ok (.aload_n 0, 1) := by decide +kernel
theorem dL_name_3 : decode cL_name 3 = .ok (.iload_n 1, 1) := by decide +kernel
theorem dL_name_4 : decode cL_name 4 = .ok (.invokevirtual 35, 3) := by decide +kernel
theorem dL_name_7 : decode cL_name 7 = .ok (.i2l, 1) := by decide +kernel
theorem dL_name_8 : decode cL_name 8 = .ok (.lastore, 1) := by decide +kernel
theorem dL_name_9 : decode cL_name 9 = .ok (.goto 6, 3) := by decide +kernel
theorem dL_name_12 : decode cL_name 12 = .ok (.astore_n 3, 1) := by decide +kernel
theorem dL_name_13 : decode cL_name 13 = .ok (.iconst 1, 1) := by decide +kernel
theorem dL_name_14 : decode cL_name 14 = .ok (.ireturn, 1) := by decide +kernel
theorem dL_name_15 : decode cL_name 15 = .ok (.iconst 0, 1) := by decide +kernel
theorem dL_name_16 : decode cL_name 16 = .ok (.ireturn, 1) := by decide +kernel
set_option maxRecDepth 20000 in
set_option maxHeartbeats 4000000 in
theorem w_name {G : GG} (hJ : gJ 40 G) (l : Launch) (hst : l.stackTraces = false) {cJ : ClassId} {o : Nat} (ho : oOk G o) (a1 : Int32) (σ : S9) (f : Nat → Int64) (Ψ : Int32 → S9 → (Nat → Int64) → Prop) (hq : wx_X10_name a1 σ (fun r σ1 => Ψ 0 σ1 (vp_updL f 0 r.toInt64)) (fun k σ1 => Ψ k σ1 f)) : WC G l cJ o yL_name cL_name 4 [(0, 9, 12, 33)] rm_L_name [.ref (gAd G 0), .int a1, .ref o] σ f Ψ := by
  refine WC.intro (by decide) (Nat.le_of_ble_eq_true rfl) hJ ?_
  intro p e s m args below meth c ls hE hT hKJ htab hml hr hlk hw hl
  have hl : lv_has ls 4 [(0, .ref (gAd G 0)), (1, .int a1), (2, .ref o)] := hl
  refine lv_aload_n hE.1 hE.2.1 dL_name_0 rfl (lv_at hl 2 rfl) ?_
  refine lv_iconst (v := 0) hE.1 hE.2.1 dL_name_1 (by decide) ?_
  refine lv_aload_n hE.1 hE.2.1 dL_name_2 rfl (lv_at hl 0 rfl) ?_
  refine lv_iload_n hE.1 hE.2.1 dL_name_3 rfl (lv_at hl 1 rfl) ?_
  refine wCall (rest := [.int 0, .ref o]) (As := [.int a1]) hE hT ho hml hl.1 hw (x_X10_name hJ l hst _ _ _ _ hq) wu28 wu31 wu29 wu30 wu3 rfl (k := 1) (by decide +kernel) (by decide) rfl rfl (Nat.le_of_ble_eq_true rfl) dL_name_4 (by decide) (fun E j ce q9 σ1 H locs hj hq hw h1 h2 h3 => ?_) (fun r σ1 H locs hq hw => ?_)
  · obtain ⟨rfl, rfl⟩ := Prod.mk.inj (List.mem_singleton.mp hj)
    refine vx_catch (own := RL) (name := nNSE) hE.2.2.1 [] ⟨0, 9, 12, 33⟩ [] (htab.trans rfl) (fun z hz => nomatch hz) (by decide) (by decide) (hE.2.2.2.1 _ wu27) (hT.cast (inTW 855 (by decide +kernel) rfl)) h1 h2 h3 ?_
    refine W.eq (g2 := F0 m 12 ls [.ref q9]) rfl ?_
    refine lv_astore_n (lv' := [(3, .ref q9), (0, .ref (gAd G 0)), (1, .int a1), (2, .ref o)]) hE.1 hE.2.1 dL_name_12 rfl hl (by decide) rfl (fun ls hl => ?_)
    refine lv_iconst (v := 1) hE.1 hE.2.1 dL_name_13 (by decide) ?_
    exact wRet hE hr hlk hw hq dL_name_14
  · refine lv_i2l (v := r.toInt64) hE.1 hE.2.1 dL_name_7 rfl ?_
    refine wLast hE hKJ ho hw dL_name_8 (fun H locs hw => ?_)
    refine lv_goto (tgt := 15) hE.1 hE.2.1 dL_name_9 (by decide) ?_
    refine lv_iconst (v := 0) hE.1 hE.2.1 dL_name_15 (by decide) ?_
    exact wRet hE hr hlk hw hq dL_name_16
/-! QueueBenchLaw.cell(LQueueBench;I[J)I -/
abbrev rm_L_cell : Room := { frames := 7, cells := 1, slots := 6, locals := 111 }
theorem dL_cell_0 : decode cL_cell 0 = .ok (.aload_n 2, 1) := by decide +kernel
theorem dL_cell_1 : decode cL_cell 1 = .ok (.iconst 0, 1) := by decide +kernel
theorem dL_cell_2 : decode cL_cell 2 = .ok (.aload_n 0, 1) := by decide +kernel
theorem dL_cell_3 : decode cL_cell 3 = .ok (.iload_n 1, 1) := by decide +kernel
theorem dL_cell_4 : decode cL_cell 4 = .ok (.invokevirtual 38, 3) := by decide +kernel
theorem dL_cell_7 : decode cL_cell 7 = .ok (.i2l, 1) := by decide +kernel
theorem dL_cell_8 : decode cL_cell 8 = .ok (.lastore, 1) := by decide +kernel
theorem dL_cell_9 : decode cL_cell 9 = .ok (.goto 6, 3) := by decide +kernel
theorem dL_cell_12 : decode cL_cell 12 = .ok (.astore_n 3, 1) := by decide +kernel
theorem dL_cell_13 : decode cL_cell 13 = .ok (.iconst 1, 1) := by decide +kernel
theorem dL_cell_14 : decode cL_cell 14 = .ok (.ireturn, 1) := by decide +kernel
theorem dL_cell_15 : decode cL_cell 15 = .ok (.iconst 0, 1) := by decide +kernel
theorem dL_cell_16 : decode cL_cell 16 = .ok (.ireturn, 1) := by decide +kernel
set_option maxRecDepth 20000 in
set_option maxHeartbeats 4000000 in
theorem w_cell {G : GG} (hJ : gJ 40 G) (l : Launch) (hst : l.stackTraces = false) {cJ : ClassId} {o : Nat} (ho : oOk G o) (a1 : Int32) (σ : S9) (f : Nat → Int64) (Ψ : Int32 → S9 → (Nat → Int64) → Prop) (hq : wx_X10_cell a1 σ (fun r σ1 => Ψ 0 σ1 (vp_updL f 0 r.toInt64)) (fun k σ1 => Ψ k σ1 f)) : WC G l cJ o yL_cell cL_cell 4 [(0, 9, 12, 33)] rm_L_cell [.ref (gAd G 0), .int a1, .ref o] σ f Ψ := by
  refine WC.intro (by decide) (Nat.le_of_ble_eq_true rfl) hJ ?_
  intro p e s m args below meth c ls hE hT hKJ htab hml hr hlk hw hl
  have hl : lv_has ls 4 [(0, .ref (gAd G 0)), (1, .int a1), (2, .ref o)] := hl
  refine lv_aload_n hE.1 hE.2.1 dL_cell_0 rfl (lv_at hl 2 rfl) ?_
  refine lv_iconst (v := 0) hE.1 hE.2.1 dL_cell_1 (by decide) ?_
  refine lv_aload_n hE.1 hE.2.1 dL_cell_2 rfl (lv_at hl 0 rfl) ?_
  refine lv_iload_n hE.1 hE.2.1 dL_cell_3 rfl (lv_at hl 1 rfl) ?_
  refine wCall (rest := [.int 0, .ref o]) (As := [.int a1]) hE hT ho hml hl.1 hw (x_X10_cell hJ l hst _ _ _ _ hq) wu32 wu35 wu33 wu34 wu3 rfl (k := 1) (by decide +kernel) (by decide) rfl rfl (Nat.le_of_ble_eq_true rfl) dL_cell_4 (by decide) (fun E j ce q9 σ1 H locs hj hq hw h1 h2 h3 => ?_) (fun r σ1 H locs hq hw => ?_)
  · obtain ⟨rfl, rfl⟩ := Prod.mk.inj (List.mem_singleton.mp hj)
    refine vx_catch (own := RL) (name := nNSE) hE.2.2.1 [] ⟨0, 9, 12, 33⟩ [] (htab.trans rfl) (fun z hz => nomatch hz) (by decide) (by decide) (hE.2.2.2.1 _ wu27) (hT.cast (inTW 855 (by decide +kernel) rfl)) h1 h2 h3 ?_
    refine W.eq (g2 := F0 m 12 ls [.ref q9]) rfl ?_
    refine lv_astore_n (lv' := [(3, .ref q9), (0, .ref (gAd G 0)), (1, .int a1), (2, .ref o)]) hE.1 hE.2.1 dL_cell_12 rfl hl (by decide) rfl (fun ls hl => ?_)
    refine lv_iconst (v := 1) hE.1 hE.2.1 dL_cell_13 (by decide) ?_
    exact wRet hE hr hlk hw hq dL_cell_14
  · refine lv_i2l (v := r.toInt64) hE.1 hE.2.1 dL_cell_7 rfl ?_
    refine wLast hE hKJ ho hw dL_cell_8 (fun H locs hw => ?_)
    refine lv_goto (tgt := 15) hE.1 hE.2.1 dL_cell_9 (by decide) ?_
    refine lv_iconst (v := 0) hE.1 hE.2.1 dL_cell_15 (by decide) ?_
    exact wRet hE hr hlk hw hq dL_cell_16
/-! QueueBenchLaw.terms(LQueueBench;I[J)I -/
abbrev rm_L_terms : Room := { frames := 7, cells := 1, slots := 6, locals := 117 }
theorem dL_terms_0 : decode cL_terms 0 = .ok (.aload_n 2, 1) := by decide +kernel
theorem dL_terms_1 : decode cL_terms 1 = .ok (.iconst 0, 1) := by decide +kernel
theorem dL_terms_2 : decode cL_terms 2 = .ok (.aload_n 0, 1) := by decide +kernel
theorem dL_terms_3 : decode cL_terms 3 = .ok (.iload_n 1, 1) := by decide +kernel
theorem dL_terms_4 : decode cL_terms 4 = .ok (.invokevirtual 41, 3) := by decide +kernel
theorem dL_terms_7 : decode cL_terms 7 = .ok (.i2l, 1) := by decide +kernel
theorem dL_terms_8 : decode cL_terms 8 = .ok (.lastore, 1) := by decide +kernel
theorem dL_terms_9 : decode cL_terms 9 = .ok (.goto 6, 3) := by decide +kernel
theorem dL_terms_12 : decode cL_terms 12 = .ok (.astore_n 3, 1) := by decide +kernel
theorem dL_terms_13 : decode cL_terms 13 = .ok (.iconst 1, 1) := by decide +kernel
theorem dL_terms_14 : decode cL_terms 14 = .ok (.ireturn, 1) := by decide +kernel
theorem dL_terms_15 : decode cL_terms 15 = .ok (.iconst 0, 1) := by decide +kernel
theorem dL_terms_16 : decode cL_terms 16 = .ok (.ireturn, 1) := by decide +kernel
set_option maxRecDepth 20000 in
set_option maxHeartbeats 4000000 in
theorem w_terms {G : GG} (hJ : gJ 40 G) (l : Launch) (hst : l.stackTraces = false) {cJ : ClassId} {o : Nat} (ho : oOk G o) (a1 : Int32) (σ : S9) (f : Nat → Int64) (Ψ : Int32 → S9 → (Nat → Int64) → Prop) (hq : wx_X10_terms a1 σ (fun r σ1 => Ψ 0 σ1 (vp_updL f 0 r.toInt64)) (fun k σ1 => Ψ k σ1 f)) : WC G l cJ o yL_terms cL_terms 4 [(0, 9, 12, 33)] rm_L_terms [.ref (gAd G 0), .int a1, .ref o] σ f Ψ := by
  refine WC.intro (by decide) (Nat.le_of_ble_eq_true rfl) hJ ?_
  intro p e s m args below meth c ls hE hT hKJ htab hml hr hlk hw hl
  have hl : lv_has ls 4 [(0, .ref (gAd G 0)), (1, .int a1), (2, .ref o)] := hl
  refine lv_aload_n hE.1 hE.2.1 dL_terms_0 rfl (lv_at hl 2 rfl) ?_
  refine lv_iconst (v := 0) hE.1 hE.2.1 dL_terms_1 (by decide) ?_
  refine lv_aload_n hE.1 hE.2.1 dL_terms_2 rfl (lv_at hl 0 rfl) ?_
  refine lv_iload_n hE.1 hE.2.1 dL_terms_3 rfl (lv_at hl 1 rfl) ?_
  refine wCall (rest := [.int 0, .ref o]) (As := [.int a1]) hE hT ho hml hl.1 hw (x_X10_terms hJ l hst _ _ _ _ hq) wu36 wu39 wu37 wu38 wu3 rfl (k := 1) (by decide +kernel) (by decide) rfl rfl (Nat.le_of_ble_eq_true rfl) dL_terms_4 (by decide) (fun E j ce q9 σ1 H locs hj hq hw h1 h2 h3 => ?_) (fun r σ1 H locs hq hw => ?_)
  · obtain ⟨rfl, rfl⟩ := Prod.mk.inj (List.mem_singleton.mp hj)
    refine vx_catch (own := RL) (name := nNSE) hE.2.2.1 [] ⟨0, 9, 12, 33⟩ [] (htab.trans rfl) (fun z hz => nomatch hz) (by decide) (by decide) (hE.2.2.2.1 _ wu27) (hT.cast (inTW 855 (by decide +kernel) rfl)) h1 h2 h3 ?_
    refine W.eq (g2 := F0 m 12 ls [.ref q9]) rfl ?_
    refine lv_astore_n (lv' := [(3, .ref q9), (0, .ref (gAd G 0)), (1, .int a1), (2, .ref o)]) hE.1 hE.2.1 dL_terms_12 rfl hl (by decide) rfl (fun ls hl => ?_)
    refine lv_iconst (v := 1) hE.1 hE.2.1 dL_terms_13 (by decide) ?_
    exact wRet hE hr hlk hw hq dL_terms_14
  · refine lv_i2l (v := r.toInt64) hE.1 hE.2.1 dL_terms_7 rfl ?_
    refine wLast hE hKJ ho hw dL_terms_8 (fun H locs hw => ?_)
    refine lv_goto (tgt := 15) hE.1 hE.2.1 dL_terms_9 (by decide) ?_
    refine lv_iconst (v := 0) hE.1 hE.2.1 dL_terms_15 (by decide) ?_
    exact wRet hE hr hlk hw hq dL_terms_16
/-! QueueBenchLaw.count(LQueueBench;I[J)I -/
abbrev rm_L_count : Room := { frames := 7, cells := 1, slots := 6, locals := 111 }
theorem dL_count_0 : decode cL_count 0 = .ok (.aload_n 2, 1) := by decide +kernel
theorem dL_count_1 : decode cL_count 1 = .ok (.iconst 0, 1) := by decide +kernel
theorem dL_count_2 : decode cL_count 2 = .ok (.aload_n 0, 1) := by decide +kernel
theorem dL_count_3 : decode cL_count 3 = .ok (.iload_n 1, 1) := by decide +kernel
theorem dL_count_4 : decode cL_count 4 = .ok (.invokevirtual 44, 3) := by decide +kernel
theorem dL_count_7 : decode cL_count 7 = .ok (.i2l, 1) := by decide +kernel
theorem dL_count_8 : decode cL_count 8 = .ok (.lastore, 1) := by decide +kernel
theorem dL_count_9 : decode cL_count 9 = .ok (.goto 6, 3) := by decide +kernel
theorem dL_count_12 : decode cL_count 12 = .ok (.astore_n 3, 1) := by decide +kernel
theorem dL_count_13 : decode cL_count 13 = .ok (.iconst 1, 1) := by decide +kernel
theorem dL_count_14 : decode cL_count 14 = .ok (.ireturn, 1) := by decide +kernel
theorem dL_count_15 : decode cL_count 15 = .ok (.iconst 0, 1) := by decide +kernel
theorem dL_count_16 : decode cL_count 16 = .ok (.ireturn, 1) := by decide +kernel
set_option maxRecDepth 20000 in
set_option maxHeartbeats 4000000 in
theorem w_count {G : GG} (hJ : gJ 40 G) (l : Launch) (hst : l.stackTraces = false) {cJ : ClassId} {o : Nat} (ho : oOk G o) (a1 : Int32) (σ : S9) (f : Nat → Int64) (Ψ : Int32 → S9 → (Nat → Int64) → Prop) (hq : wx_X10_count a1 σ (fun r σ1 => Ψ 0 σ1 (vp_updL f 0 r.toInt64)) (fun k σ1 => Ψ k σ1 f)) : WC G l cJ o yL_count cL_count 4 [(0, 9, 12, 25)] rm_L_count [.ref (gAd G 0), .int a1, .ref o] σ f Ψ := by
  refine WC.intro (by decide) (Nat.le_of_ble_eq_true rfl) hJ ?_
  intro p e s m args below meth c ls hE hT hKJ htab hml hr hlk hw hl
  have hl : lv_has ls 4 [(0, .ref (gAd G 0)), (1, .int a1), (2, .ref o)] := hl
  refine lv_aload_n hE.1 hE.2.1 dL_count_0 rfl (lv_at hl 2 rfl) ?_
  refine lv_iconst (v := 0) hE.1 hE.2.1 dL_count_1 (by decide) ?_
  refine lv_aload_n hE.1 hE.2.1 dL_count_2 rfl (lv_at hl 0 rfl) ?_
  refine lv_iload_n hE.1 hE.2.1 dL_count_3 rfl (lv_at hl 1 rfl) ?_
  refine wCall (rest := [.int 0, .ref o]) (As := [.int a1]) hE hT ho hml hl.1 hw (x_X10_count hJ l hst _ _ _ _ hq) wu40 wu43 wu41 wu42 wu3 rfl (k := 1) (by decide +kernel) (by decide) rfl rfl (Nat.le_of_ble_eq_true rfl) dL_count_4 (by decide) (fun E j ce q9 σ1 H locs hj hq hw h1 h2 h3 => ?_) (fun r σ1 H locs hq hw => ?_)
  · obtain ⟨rfl, rfl⟩ := Prod.mk.inj (List.mem_singleton.mp hj)
    refine vx_catch (own := RL) (name := nIAE) hE.2.2.1 [] ⟨0, 9, 12, 25⟩ [] (htab.trans rfl) (fun z hz => nomatch hz) (by decide) (by decide) (hE.2.2.2.1 _ wu18) (hT.cast (inTW 739 (by decide +kernel) rfl)) h1 h2 h3 ?_
    refine W.eq (g2 := F0 m 12 ls [.ref q9]) rfl ?_
    refine lv_astore_n (lv' := [(3, .ref q9), (0, .ref (gAd G 0)), (1, .int a1), (2, .ref o)]) hE.1 hE.2.1 dL_count_12 rfl hl (by decide) rfl (fun ls hl => ?_)
    refine lv_iconst (v := 1) hE.1 hE.2.1 dL_count_13 (by decide) ?_
    exact wRet hE hr hlk hw hq dL_count_14
  · refine lv_i2l (v := r.toInt64) hE.1 hE.2.1 dL_count_7 rfl ?_
    refine wLast hE hKJ ho hw dL_count_8 (fun H locs hw => ?_)
    refine lv_goto (tgt := 15) hE.1 hE.2.1 dL_count_9 (by decide) ?_
    refine lv_iconst (v := 0) hE.1 hE.2.1 dL_count_15 (by decide) ?_
    exact wRet hE hr hlk hw hq dL_count_16
