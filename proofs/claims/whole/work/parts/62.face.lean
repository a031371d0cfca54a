/-! the ten calls of the class that throw, each from its bytecode: a predicate wx_ and the walk x_ that shows it -/
theorem cu349 : Cond.code yX10_signsIn cX10_signsIn 3 (some .int) ∈ UW := inUW 631 (by decide +kernel) rfl
theorem cu350 : Cond.methodLink RX10 62 yX10_signsIn ∈ UW := inUW 629 (by decide +kernel) rfl
theorem cu351 : Cond.static yX10_signsIn ∈ UW := inUW 630 (by decide +kernel) rfl
theorem cu352 : Cond.code yX8_append cX8_append 4 none ∈ UW := inUW 703 (by decide +kernel) rfl
theorem cu353 : Cond.methodLink RX10 77 yX8_append ∈ UW := inUW 700 (by decide +kernel) rfl
theorem cu354 : Cond.instanceMethod yX8_append ∈ UW := inUW 701 (by decide +kernel) rfl
theorem cu355 : Cond.selects RX8 yX8_append yX8_append ∈ UW := inUW 702 (by decide +kernel) rfl
theorem cu356 : Cond.fieldLink RX10 19 "QueueBench" "input" "LQueueBench$Input;" ∈ UW := inUW 393 (by decide +kernel) rfl
theorem cu357 : Cond.code yX2_append cX2_append 2 none ∈ UW := inUW 715 (by decide +kernel) rfl
theorem cu358 : Cond.initialized RX2 ∈ UW := inUW 64 (by decide +kernel) rfl
theorem cu359 : Cond.methodLink RX10 97 yX2_append ∈ UW := inUW 712 (by decide +kernel) rfl
theorem cu360 : Cond.instanceMethod yX2_append ∈ UW := inUW 713 (by decide +kernel) rfl
theorem cu361 : Cond.selects RX2 yX2_append yX2_append ∈ UW := inUW 714 (by decide +kernel) rfl
theorem cu362 : Cond.fieldLink RX10 51 "QueueBench" "machine" "LQueueBench$Machine;" ∈ UW := inUW 397 (by decide +kernel) rfl
theorem cu363 : Cond.code yX3_rewind cX3_rewind 1 none ∈ UW := inUW 727 (by decide +kernel) rfl
theorem cu364 : Cond.methodLink RX10 100 yX3_rewind ∈ UW := inUW 724 (by decide +kernel) rfl
theorem cu365 : Cond.instanceMethod yX3_rewind ∈ UW := inUW 725 (by decide +kernel) rfl
theorem cu366 : Cond.selects RX3 yX3_rewind yX3_rewind ∈ UW := inUW 726 (by decide +kernel) rfl
theorem cu367 : Cond.code yX3_doSteps cX3_doSteps 3 (some .int) ∈ UW := inUW 757 (by decide +kernel) rfl
theorem cu368 : Cond.methodLink RX10 110 yX3_doSteps ∈ UW := inUW 754 (by decide +kernel) rfl
theorem cu369 : Cond.instanceMethod yX3_doSteps ∈ UW := inUW 755 (by decide +kernel) rfl
theorem cu370 : Cond.selects RX3 yX3_doSteps yX3_doSteps ∈ UW := inUW 756 (by decide +kernel) rfl
theorem cu371 : Cond.code yX3_condition cX3_condition 1 (some .int) ∈ UW := inUW 836 (by decide +kernel) rfl
theorem cu372 : Cond.methodLink RX10 115 yX3_condition ∈ UW := inUW 833 (by decide +kernel) rfl
theorem cu373 : Cond.instanceMethod yX3_condition ∈ UW := inUW 834 (by decide +kernel) rfl
theorem cu374 : Cond.selects RX3 yX3_condition yX3_condition ∈ UW := inUW 835 (by decide +kernel) rfl
theorem cu375 : Cond.fieldLink RX10 42 "QueueBench" "outputs" "LQueueBench$Outputs;" ∈ UW := inUW 396 (by decide +kernel) rfl
theorem cu376 : Cond.code yX3_place cX3_place 1 (some .int) ∈ UW := inUW 840 (by decide +kernel) rfl
theorem cu377 : Cond.methodLink RX10 127 yX3_place ∈ UW := inUW 837 (by decide +kernel) rfl
theorem cu378 : Cond.instanceMethod yX3_place ∈ UW := inUW 838 (by decide +kernel) rfl
theorem cu379 : Cond.selects RX3 yX3_place yX3_place ∈ UW := inUW 839 (by decide +kernel) rfl
theorem cu380 : Cond.code yX5_keeps cX5_keeps 2 (some .boolean) ∈ UW := inUW 852 (by decide +kernel) rfl
theorem cu381 : Cond.methodLink RX10 130 yX5_keeps ∈ UW := inUW 849 (by decide +kernel) rfl
theorem cu382 : Cond.instanceMethod yX5_keeps ∈ UW := inUW 850 (by decide +kernel) rfl
theorem cu383 : Cond.selects RX5 yX5_keeps yX5_keeps ∈ UW := inUW 851 (by decide +kernel) rfl
theorem cu384 : Cond.code yX5_at cX5_at 2 (some .int) ∈ UW := inUW 872 (by decide +kernel) rfl
theorem cu385 : Cond.methodLink RX10 139 yX5_at ∈ UW := inUW 869 (by decide +kernel) rfl
theorem cu386 : Cond.instanceMethod yX5_at ∈ UW := inUW 870 (by decide +kernel) rfl
theorem cu387 : Cond.selects RX5 yX5_at yX5_at ∈ UW := inUW 871 (by decide +kernel) rfl
theorem cu388 : Cond.methodLink RX10 148 yX10_isCell ∈ UW := inUW 888 (by decide +kernel) rfl
theorem cu389 : Cond.fieldLink RX10 58 "QueueBench" "termTable" "LQueueBench$TermTable;" ∈ UW := inUW 398 (by decide +kernel) rfl
theorem cu390 : Cond.fieldLink RX10 26 "QueueBench" "program" "LQueueBench$Program;" ∈ UW := inUW 394 (by decide +kernel) rfl
theorem cu391 : Cond.code yX7_differentTerms cX7_differentTerms 5 (some .int) ∈ UW := inUW 905 (by decide +kernel) rfl
theorem cu392 : Cond.methodLink RX10 161 yX7_differentTerms ∈ UW := inUW 902 (by decide +kernel) rfl
theorem cu393 : Cond.instanceMethod yX7_differentTerms ∈ UW := inUW 903 (by decide +kernel) rfl
theorem cu394 : Cond.selects RX7 yX7_differentTerms yX7_differentTerms ∈ UW := inUW 904 (by decide +kernel) rfl
theorem cu395 : Cond.code yX6_stepAt cX6_stepAt 3 (some .int) ∈ UW := inUW 900 (by decide +kernel) rfl
theorem cu396 : Cond.methodLink RX10 156 yX6_stepAt ∈ UW := inUW 897 (by decide +kernel) rfl
theorem cu397 : Cond.instanceMethod yX6_stepAt ∈ UW := inUW 898 (by decide +kernel) rfl
theorem cu398 : Cond.selects RX6 yX6_stepAt yX6_stepAt ∈ UW := inUW 899 (by decide +kernel) rfl
section RowsX
variable {p : Program} {l : Launch} {e : Env} {R : Room} {s : State} {m : MethodId} {args : Array Value} {below : List Frame} {meth : Method} {c : Code} {H : Heap} {locs : List Loc} {cells slots : Nat} {Q : State → Prop} {cc : ByteArray} {pc : Nat} {ls : Array Slot} {rest : List Value} {G : GG} {σ : S9}
theorem cgf_X10_19 (hE : Ev 40 G p s m args c cc RX10) (hw : Pic cwl 40 G σ s.heap H locs) (hdg : decode cc pc = .ok (.getfield 19, 3)) (kk : W p l e R s m args below meth c H locs cells slots Q (F0 m (pc + 3) ls (.ref (gAd G 2) :: rest))) : W p l e R s m args below meth c H locs cells slots Q (F0 m pc ls (.ref (gAd G 0) :: rest)) := gGet (C := RX10) (T := TX10) (N := 9) hE hw iuX10 0 rfl rfl 1 (by decide) cu356 rfl hdg kk
theorem cgf_X10_92 (hE : Ev 40 G p s m args c cc RX10) (hw : Pic cwl 40 G σ s.heap H locs) (hdg : decode cc pc = .ok (.getfield 92, 3)) (kk : W p l e R s m args below meth c H locs cells slots Q (F0 m (pc + 3) ls (.int (σ.1 3) :: rest))) : W p l e R s m args below meth c H locs cells slots Q (F0 m pc ls (.ref (gAd G 2) :: rest)) := gGetN (C := RX2) (T := TX2) (N := 2) hE hw iuX2 2 rfl rfl 1 (by decide) (List.mem_of_getElem? (i := 5) rfl) rfl hdg kk
theorem cgf_X10_85 (hE : Ev 40 G p s m args c cc RX10) (hw : Pic cwl 40 G σ s.heap H locs) (hdg : decode cc pc = .ok (.getfield 85, 3)) (kk : W p l e R s m args below meth c H locs cells slots Q (F0 m (pc + 3) ls (.int (σ.1 0) :: rest))) : W p l e R s m args below meth c H locs cells slots Q (F0 m pc ls (.ref (gAd G 0) :: rest)) := gGet (C := RX10) (T := TX10) (N := 9) hE hw iuX10 0 rfl rfl 7 (by decide) cu347 rfl hdg kk
theorem cgf_X10_51 (hE : Ev 40 G p s m args c cc RX10) (hw : Pic cwl 40 G σ s.heap H locs) (hdg : decode cc pc = .ok (.getfield 51, 3)) (kk : W p l e R s m args below meth c H locs cells slots Q (F0 m (pc + 3) ls (.ref (gAd G 8) :: rest))) : W p l e R s m args below meth c H locs cells slots Q (F0 m pc ls (.ref (gAd G 0) :: rest)) := gGet (C := RX10) (T := TX10) (N := 9) hE hw iuX10 0 rfl rfl 5 (by decide) cu362 rfl hdg kk
theorem cgf_X10_89 (hE : Ev 40 G p s m args c cc RX10) (hw : Pic cwl 40 G σ s.heap H locs) (hdg : decode cc pc = .ok (.getfield 89, 3)) (kk : W p l e R s m args below meth c H locs cells slots Q (F0 m (pc + 3) ls (.int (σ.1 1) :: rest))) : W p l e R s m args below meth c H locs cells slots Q (F0 m pc ls (.ref (gAd G 0) :: rest)) := gGet (C := RX10) (T := TX10) (N := 9) hE hw iuX10 0 rfl rfl 8 (by decide) cu348 rfl hdg kk
theorem cgf_X10_118 (hE : Ev 40 G p s m args c cc RX10) (hw : Pic cwl 40 G σ s.heap H locs) (hdg : decode cc pc = .ok (.getfield 118, 3)) (kk : W p l e R s m args below meth c H locs cells slots Q (F0 m (pc + 3) ls (.int (σ.1 21) :: rest))) : W p l e R s m args below meth c H locs cells slots Q (F0 m pc ls (.ref (gAd G 8) :: rest)) := gGetN (C := RX3) (T := TX3) (N := 13) hE hw iuX3 8 rfl rfl 10 (by decide) (List.mem_of_getElem? (i := 42) rfl) rfl hdg kk
theorem cgf_X10_42 (hE : Ev 40 G p s m args c cc RX10) (hw : Pic cwl 40 G σ s.heap H locs) (hdg : decode cc pc = .ok (.getfield 42, 3)) (kk : W p l e R s m args below meth c H locs cells slots Q (F0 m (pc + 3) ls (.ref (gAd G 7) :: rest))) : W p l e R s m args below meth c H locs cells slots Q (F0 m pc ls (.ref (gAd G 0) :: rest)) := gGet (C := RX10) (T := TX10) (N := 9) hE hw iuX10 0 rfl rfl 4 (by decide) cu375 rfl hdg kk
theorem cgf_X10_121 (hE : Ev 40 G p s m args c cc RX10) (hw : Pic cwl 40 G σ s.heap H locs) (hdg : decode cc pc = .ok (.getfield 121, 3)) (kk : W p l e R s m args below meth c H locs cells slots Q (F0 m (pc + 3) ls (.int (σ.1 17) :: rest))) : W p l e R s m args below meth c H locs cells slots Q (F0 m pc ls (.ref (gAd G 7) :: rest)) := gGetN (C := RX5) (T := TX5) (N := 2) hE hw iuX5 7 rfl rfl 1 (by decide) (List.mem_of_getElem? (i := 35) rfl) rfl hdg kk
theorem cgf_X10_124 (hE : Ev 40 G p s m args c cc RX10) (hw : Pic cwl 40 G σ s.heap H locs) (hdg : decode cc pc = .ok (.getfield 124, 3)) (kk : W p l e R s m args below meth c H locs cells slots Q (F0 m (pc + 3) ls (.int (σ.1 22) :: rest))) : W p l e R s m args below meth c H locs cells slots Q (F0 m pc ls (.ref (gAd G 8) :: rest)) := gGetN (C := RX3) (T := TX3) (N := 13) hE hw iuX3 8 rfl rfl 11 (by decide) (List.mem_of_getElem? (i := 43) rfl) rfl hdg kk
theorem cgf_X10_144 (hE : Ev 40 G p s m args c cc RX10) (hw : Pic cwl 40 G σ s.heap H locs) (hdg : decode cc pc = .ok (.getfield 144, 3)) (kk : W p l e R s m args below meth c H locs cells slots Q (F0 m (pc + 3) ls (.ref (gAd G 32) :: rest))) : W p l e R s m args below meth c H locs cells slots Q (F0 m pc ls (.ref (gAd G 8) :: rest)) := gGetN (C := RX3) (T := TX3) (N := 13) hE hw iuX3 8 rfl rfl 3 (by decide) (List.mem_of_getElem? (i := 40) rfl) rfl hdg kk
theorem cgf_X10_153 (hE : Ev 40 G p s m args c cc RX10) (hw : Pic cwl 40 G σ s.heap H locs) (hdg : decode cc pc = .ok (.getfield 153, 3)) (kk : W p l e R s m args below meth c H locs cells slots Q (F0 m (pc + 3) ls (.ref (gAd G 33) :: rest))) : W p l e R s m args below meth c H locs cells slots Q (F0 m pc ls (.ref (gAd G 8) :: rest)) := gGetN (C := RX3) (T := TX3) (N := 13) hE hw iuX3 8 rfl rfl 4 (by decide) (List.mem_of_getElem? (i := 41) rfl) rfl hdg kk
theorem cgf_X10_58 (hE : Ev 40 G p s m args c cc RX10) (hw : Pic cwl 40 G σ s.heap H locs) (hdg : decode cc pc = .ok (.getfield 58, 3)) (kk : W p l e R s m args below meth c H locs cells slots Q (F0 m (pc + 3) ls (.ref (gAd G 10) :: rest))) : W p l e R s m args below meth c H locs cells slots Q (F0 m pc ls (.ref (gAd G 0) :: rest)) := gGet (C := RX10) (T := TX10) (N := 9) hE hw iuX10 0 rfl rfl 6 (by decide) cu389 rfl hdg kk
theorem cgf_X10_26 (hE : Ev 40 G p s m args c cc RX10) (hw : Pic cwl 40 G σ s.heap H locs) (hdg : decode cc pc = .ok (.getfield 26, 3)) (kk : W p l e R s m args below meth c H locs cells slots Q (F0 m (pc + 3) ls (.ref (gAd G 3) :: rest))) : W p l e R s m args below meth c H locs cells slots Q (F0 m pc ls (.ref (gAd G 0) :: rest)) := gGet (C := RX10) (T := TX10) (N := 9) hE hw iuX10 0 rfl rfl 2 (by decide) cu390 rfl hdg kk
theorem cgf_X10_165 (hE : Ev 40 G p s m args c cc RX10) (hw : Pic cwl 40 G σ s.heap H locs) (hdg : decode cc pc = .ok (.getfield 165, 3)) (kk : W p l e R s m args below meth c H locs cells slots Q (F0 m (pc + 3) ls (.int (σ.1 4) :: rest))) : W p l e R s m args below meth c H locs cells slots Q (F0 m pc ls (.ref (gAd G 3) :: rest)) := gGetN (C := RX6) (T := TX6) (N := 13) hE hw iuX6 3 rfl rfl 11 (by decide) (List.mem_of_getElem? (i := 27) rfl) rfl hdg kk
theorem cgf_X10_168 (hE : Ev 40 G p s m args c cc RX10) (hw : Pic cwl 40 G σ s.heap H locs) (hdg : decode cc pc = .ok (.getfield 168, 3)) (kk : W p l e R s m args below meth c H locs cells slots Q (F0 m (pc + 3) ls (.int (σ.1 5) :: rest))) : W p l e R s m args below meth c H locs cells slots Q (F0 m pc ls (.ref (gAd G 3) :: rest)) := gGetN (C := RX6) (T := TX6) (N := 13) hE hw iuX6 3 rfl rfl 12 (by decide) (List.mem_of_getElem? (i := 28) rfl) rfl hdg kk
end RowsX
/-! QueueBench.feed(IIIII)I -/
abbrev rm_X10_feed : Room := { frames := 6, cells := 1, slots := 6, locals := 90 }
abbrev kl_X10_feed : List (String × Int32) := [("java/lang/IllegalStateException", 1)]
def wx_X10_feed (a1 : Int32) (a2 : Int32) (a3 : Int32) (a4 : Int32) (a5 : Int32) (σ : S9) (Φ : Int32 → S9 → Prop) (Θ : Int32 → S9 → Prop) : Prop := wp_X10_signsIn a1 σ (fun r1 σ1 => wp_X10_signsIn a2 σ1 (fun r2 σ2 => wp_X10_signsIn a3 σ2 (fun r3 σ3 => wp_X10_signsIn a4 σ3 (fun r4 σ4 => wp_X10_signsIn a5 σ4 (fun r5 σ5 => ∀ x6 : Int32, x6 = ((((r1 + r2) + r3) + r4) + r5) → (((σ5.1 2) + x6) ≤ (3000 : Int32) → wp_X8_append a1 σ5 (fun σ6 => wp_X8_append a2 σ6 (fun σ7 => wp_X8_append a3 σ7 (fun σ8 => wp_X8_append a4 σ8 (fun σ9 => wp_X8_append a5 σ9 (fun σ10 => Φ (σ10.1 2) σ10)))))) ∧ (¬ ((σ5.1 2) + x6) ≤ (3000 : Int32) → Θ (1 : Int32) σ5))))))
theorem dX10_feed_0 : decode cX10_feed 0 = .ok (.iload_n 1, 1) := by decide +kernel
theorem dX10_feed_1 : decode cX10_feed 1 = .ok (.invokestatic 62, 3) := by decide +kernel
theorem dX10_feed_4 : decode cX10_feed 4 = .ok (.iload_n 2, 1) := by decide +kernel
theorem dX10_feed_5 : decode cX10_feed 5 = .ok (.invokestatic 62, 3) := by decide +kernel
theorem dX10_feed_8 : decode cX10_feed 8 = .ok (.iadd, 1) := by decide +kernel
theorem dX10_feed_9 : decode cX10_feed 9 = .ok (.iload_n 3, 1) := by decide +kernel
theorem dX10_feed_10 : decode cX10_feed 10 = .ok (.invokestatic 62, 3) := by decide +kernel
theorem dX10_feed_13 : decode cX10_feed 13 = .ok (.iadd, 1) := by decide +kernel
theorem dX10_feed_14 : decode cX10_feed 14 = .ok (.iload 4, 2) := by decide +kernel
theorem dX10_feed_16 : decode cX10_feed 16 = .ok (.invokestatic 62, 3) := by decide +kernel
theorem dX10_feed_19 : decode cX10_feed 19 = .ok (.iadd, 1) := by decide +kernel
theorem dX10_feed_20 : decode cX10_feed 20 = .ok (.iload 5, 2) := by decide +kernel
theorem dX10_feed_22 : decode cX10_feed 22 = .ok (.invokestatic 62, 3) := by decide +kernel
theorem dX10_feed_25 : decode cX10_feed 25 = .ok (.iadd, 1) := by decide +kernel
theorem dX10_feed_26 : decode cX10_feed 26 = .ok (.istore 6, 2) := by decide +kernel
theorem dX10_feed_28 : decode cX10_feed 28 = .ok (.aload_n 0, 1) := by decide +kernel
theorem dX10_feed_29 : decode cX10_feed 29 = .ok (.getfield 12, 3) := by decide +kernel
theorem dX10_feed_32 : decode cX10_feed 32 = .ok (.getfield 66, 3) := by decide +kernel
theorem dX10_feed_35 : decode cX10_feed 35 = .ok (.iload 6, 2) := by decide +kernel
theorem dX10_feed_37 : decode cX10_feed 37 = .ok (.iadd, 1) := by decide +kernel
theorem dX10_feed_38 : decode cX10_feed 38 = .ok (.sipush 3000, 3) := by decide +kernel
theorem dX10_feed_41 : decode cX10_feed 41 = .ok (.if_icmp .le 13, 3) := by decide +kernel
theorem dX10_feed_44 : decode cX10_feed 44 = .ok (.new 70, 3) := by decide +kernel
theorem dX10_feed_47 : decode cX10_feed 47 = .ok (.dup, 1) := by decide +kernel
theorem dX10_feed_48 : decode cX10_feed 48 = .ok (.ldc 72, 2) := by decide +kernel
theorem dX10_feed_50 : decode cX10_feed 50 = .ok (.invokespecial 74, 3) := by decide +kernel
theorem dX10_feed_53 : decode cX10_feed 53 = .ok (.athrow, 1) := by decide +kernel
theorem dX10_feed_54 : decode cX10_feed 54 = .ok (.aload_n 0, 1) := by decide +kernel
theorem dX10_feed_55 : decode cX10_feed 55 = .ok (.getfield 12, 3) := by decide +kernel
theorem dX10_feed_58 : decode cX10_feed 58 = .ok (.iload_n 1, 1) := by decide +kernel
theorem dX10_feed_59 : decode cX10_feed 59 = .ok (.invokevirtual 77, 3) := by decide +kernel
theorem dX10_feed_62 : decode cX10_feed 62 = .ok (.aload_n 0, 1) := by decide +kernel
theorem dX10_feed_63 : decode cX10_feed 63 = .ok (.getfield 12, 3) := by decide +kernel
theorem dX10_feed_66 : decode cX10_feed 66 = .ok (.iload_n 2, 1) := by decide +kernel
theorem dX10_feed_67 : decode cX10_feed 67 = .ok (.invokevirtual 77, 3) := by decide +kernel
theorem dX10_feed_70 : decode cX10_feed 70 = .ok (.aload_n 0, 1) := by decide +kernel
theorem dX10_feed_71 : decode cX10_feed 71 = .ok (.getfield 12, 3) := by decide +kernel
theorem dX10_feed_74 : decode cX10_feed 74 = .ok (.iload_n 3, 1) := by decide +kernel
theorem dX10_feed_75 : decode cX10_feed 75 = .ok (.invokevirtual 77, 3) := by decide +kernel
theorem dX10_feed_78 : decode cX10_feed 78 = .ok (.aload_n 0, 1) := by decide +kernel
theorem dX10_feed_79 : decode cX10_feed 79 = .ok (.getfield 12, 3) := by decide +kernel
theorem dX10_feed_82 : decode cX10_feed 82 = .ok (.iload 4, 2) := by decide +kernel
theorem dX10_feed_84 : decode cX10_feed 84 = .ok (.invokevirtual 77, 3) := by decide +kernel
theorem dX10_feed_87 : decode cX10_feed 87 = .ok (.aload_n 0, 1) := by decide +kernel
theorem dX10_feed_88 : decode cX10_feed 88 = .ok (.getfield 12, 3) := by decide +kernel
theorem dX10_feed_91 : decode cX10_feed 91 = .ok (.iload 5, 2) := by decide +kernel
theorem dX10_feed_93 : decode cX10_feed 93 = .ok (.invokevirtual 77, 3) := by decide +kernel
theorem dX10_feed_96 : decode cX10_feed 96 = .ok (.aload_n 0, 1) := by decide +kernel
theorem dX10_feed_97 : decode cX10_feed 97 = .ok (.getfield 12, 3) := by decide +kernel
theorem dX10_feed_100 : decode cX10_feed 100 = .ok (.getfield 66, 3) := by decide +kernel
theorem dX10_feed_103 : decode cX10_feed 103 = .ok (.ireturn, 1) := by decide +kernel
set_option maxRecDepth 20000 in
set_option maxHeartbeats 4000000 in
theorem x_X10_feed {G : GG} (hJ : gJ 40 G) (l : Launch) (hst : l.stackTraces = false) (a1 : Int32) (a2 : Int32) (a3 : Int32) (a4 : Int32) (a5 : Int32) (σ : S9) (Φ : Int32 → S9 → Prop) (Θ : Int32 → S9 → Prop) (hq : wx_X10_feed a1 a2 a3 a4 a5 σ Φ Θ) : XI cwl 40 G l yX10_feed cX10_feed 7 (some .int) rm_X10_feed [.ref (gAd G 0), .int a1, .int a2, .int a3, .int a4, .int a5] σ Φ kl_X10_feed Θ := by
  refine XI.intro (by decide) (Nat.le_of_ble_eq_true rfl) hJ ?_
  intro p e s m args below meth c ls hE hT hx0 hml hr hlk hw hl
  have hl : lv_has ls 7 [(0, .ref (gAd G 0)), (1, .int a1), (2, .int a2), (3, .int a3), (4, .int a4), (5, .int a5)] := hl
  unfold wx_X10_feed at hq
  refine lv_iload_n hE.1 hE.2.1 dX10_feed_0 rfl (lv_at hl 1 rfl) ?_
  refine clSi (rest := []) (As := [.int a1]) hE hml hl.1 hw (c_X10_signsIn hE.2.2.2.2.2 l _ _ _ hq) cu349 cu350 cu351 cu47 (k := 1) (by decide +kernel) (by decide) rfl rfl (Nat.le_of_ble_eq_true rfl) dX10_feed_1 (by decide) (fun r1 σ1 hq H locs hw => ?_)
  refine lv_iload_n hE.1 hE.2.1 dX10_feed_4 rfl (lv_at hl 2 rfl) ?_
  refine clSi (rest := [.int r1]) (As := [.int a2]) hE hml hl.1 hw (c_X10_signsIn hE.2.2.2.2.2 l _ _ _ hq) cu349 cu350 cu351 cu47 (k := 1) (by decide +kernel) (by decide) rfl rfl (Nat.le_of_ble_eq_true rfl) dX10_feed_5 (by decide) (fun r2 σ2 hq H locs hw => ?_)
  refine lv_iadd hE.1 hE.2.1 dX10_feed_8 ?_
  refine lv_iload_n hE.1 hE.2.1 dX10_feed_9 rfl (lv_at hl 3 rfl) ?_
  refine clSi (rest := [.int (r1 + r2)]) (As := [.int a3]) hE hml hl.1 hw (c_X10_signsIn hE.2.2.2.2.2 l _ _ _ hq) cu349 cu350 cu351 cu47 (k := 1) (by decide +kernel) (by decide) rfl rfl (Nat.le_of_ble_eq_true rfl) dX10_feed_10 (by decide) (fun r3 σ3 hq H locs hw => ?_)
  refine lv_iadd hE.1 hE.2.1 dX10_feed_13 ?_
  refine lv_iload hE.1 hE.2.1 dX10_feed_14 (lv_at hl 4 rfl) ?_
  refine clSi (rest := [.int ((r1 + r2) + r3)]) (As := [.int a4]) hE hml hl.1 hw (c_X10_signsIn hE.2.2.2.2.2 l _ _ _ hq) cu349 cu350 cu351 cu47 (k := 1) (by decide +kernel) (by decide) rfl rfl (Nat.le_of_ble_eq_true rfl) dX10_feed_16 (by decide) (fun r4 σ4 hq H locs hw => ?_)
  refine lv_iadd hE.1 hE.2.1 dX10_feed_19 ?_
  refine lv_iload hE.1 hE.2.1 dX10_feed_20 (lv_at hl 5 rfl) ?_
  refine clSi (rest := [.int (((r1 + r2) + r3) + r4)]) (As := [.int a5]) hE hml hl.1 hw (c_X10_signsIn hE.2.2.2.2.2 l _ _ _ hq) cu349 cu350 cu351 cu47 (k := 1) (by decide +kernel) (by decide) rfl rfl (Nat.le_of_ble_eq_true rfl) dX10_feed_22 (by decide) (fun r5 σ5 hq H locs hw => ?_)
  refine lv_iadd hE.1 hE.2.1 dX10_feed_25 ?_
  refine lv_topi (fun x6 ex6 => ?_)
  have hq := hq x6 ex6
  refine lv_istore (lv' := [(6, .int x6), (0, .ref (gAd G 0)), (1, .int a1), (2, .int a2), (3, .int a3), (4, .int a4), (5, .int a5)]) hE.1 hE.2.1 dX10_feed_26 hl (by decide) rfl (fun ls hl => ?_)
  refine lv_aload_n hE.1 hE.2.1 dX10_feed_28 rfl (lv_at hl 1 rfl) ?_
  refine cgf_X10_12 hE hw dX10_feed_29 ?_
  refine cgf_X10_66 hE hw dX10_feed_32 ?_
  refine lv_iload hE.1 hE.2.1 dX10_feed_35 (lv_at hl 0 rfl) ?_
  refine lv_iadd hE.1 hE.2.1 dX10_feed_37 ?_
  refine lv_sipush (v := (3000 : Int32)) hE.1 hE.2.1 dX10_feed_38 (by decide) ?_
  refine lv_icmp_le (tgt := 54) hE.1 hE.2.1 dX10_feed_41 (by decide) (fun c7 => ?_) (fun c7 => ?_)
  · have hq := hq.1 c7
    refine lv_aload_n hE.1 hE.2.1 dX10_feed_54 rfl (lv_at hl 1 rfl) ?_
    refine cgf_X10_12 hE hw dX10_feed_55 ?_
    refine lv_iload_n hE.1 hE.2.1 dX10_feed_58 rfl (lv_at hl 2 rfl) ?_
    refine clVv (rest := []) (As := [.int a1]) hE hml hl.1 hw (c_X8_append hE.2.2.2.2.2 l _ _ _ hq) cu352 cu353 cu354 cu355 cu146 rfl (k := 1) (by decide +kernel) (by decide) (ci := 8) rfl (q0 := 1) rfl rfl rfl (Nat.le_of_ble_eq_true rfl) dX10_feed_59 (by decide) (fun σ6 hq H locs hw => ?_)
    refine lv_aload_n hE.1 hE.2.1 dX10_feed_62 rfl (lv_at hl 1 rfl) ?_
    refine cgf_X10_12 hE hw dX10_feed_63 ?_
    refine lv_iload_n hE.1 hE.2.1 dX10_feed_66 rfl (lv_at hl 3 rfl) ?_
    refine clVv (rest := []) (As := [.int a2]) hE hml hl.1 hw (c_X8_append hE.2.2.2.2.2 l _ _ _ hq) cu352 cu353 cu354 cu355 cu146 rfl (k := 1) (by decide +kernel) (by decide) (ci := 8) rfl (q0 := 1) rfl rfl rfl (Nat.le_of_ble_eq_true rfl) dX10_feed_67 (by decide) (fun σ7 hq H locs hw => ?_)
    refine lv_aload_n hE.1 hE.2.1 dX10_feed_70 rfl (lv_at hl 1 rfl) ?_
    refine cgf_X10_12 hE hw dX10_feed_71 ?_
    refine lv_iload_n hE.1 hE.2.1 dX10_feed_74 rfl (lv_at hl 4 rfl) ?_
    refine clVv (rest := []) (As := [.int a3]) hE hml hl.1 hw (c_X8_append hE.2.2.2.2.2 l _ _ _ hq) cu352 cu353 cu354 cu355 cu146 rfl (k := 1) (by decide +kernel) (by decide) (ci := 8) rfl (q0 := 1) rfl rfl rfl (Nat.le_of_ble_eq_true rfl) dX10_feed_75 (by decide) (fun σ8 hq H locs hw => ?_)
    refine lv_aload_n hE.1 hE.2.1 dX10_feed_78 rfl (lv_at hl 1 rfl) ?_
    refine cgf_X10_12 hE hw dX10_feed_79 ?_
    refine lv_iload hE.1 hE.2.1 dX10_feed_82 (lv_at hl 5 rfl) ?_
    refine clVv (rest := []) (As := [.int a4]) hE hml hl.1 hw (c_X8_append hE.2.2.2.2.2 l _ _ _ hq) cu352 cu353 cu354 cu355 cu146 rfl (k := 1) (by decide +kernel) (by decide) (ci := 8) rfl (q0 := 1) rfl rfl rfl (Nat.le_of_ble_eq_true rfl) dX10_feed_84 (by decide) (fun σ9 hq H locs hw => ?_)
    refine lv_aload_n hE.1 hE.2.1 dX10_feed_87 rfl (lv_at hl 1 rfl) ?_
    refine cgf_X10_12 hE hw dX10_feed_88 ?_
    refine lv_iload hE.1 hE.2.1 dX10_feed_91 (lv_at hl 6 rfl) ?_
    refine clVv (rest := []) (As := [.int a5]) hE hml hl.1 hw (c_X8_append hE.2.2.2.2.2 l _ _ _ hq) cu352 cu353 cu354 cu355 cu146 rfl (k := 1) (by decide +kernel) (by decide) (ci := 8) rfl (q0 := 1) rfl rfl rfl (Nat.le_of_ble_eq_true rfl) dX10_feed_93 (by decide) (fun σ10 hq H locs hw => ?_)
    refine lv_aload_n hE.1 hE.2.1 dX10_feed_96 rfl (lv_at hl 1 rfl) ?_
    refine cgf_X10_12 hE hw dX10_feed_97 ?_
    refine cgf_X10_66 hE hw dX10_feed_100 ?_
    exact rtIX hE hr hlk hw hq dX10_feed_103
  · have hq := hq.2 c7
    exact thr (k := 1) (is := 72) (text := "the text would have more than 3000 signs") hE hT hst hx0 hw wk_ISE (List.mem_of_getElem? (i := 0) rfl) (by decide) (by decide) (by decide) hq hml hl.1 dX10_feed_44 dX10_feed_47 dX10_feed_48 dX10_feed_50 dX10_feed_53 (by decide) hlk
/-! QueueBench.give(I)I -/
abbrev rm_X10_give : Room := { frames := 6, cells := 1, slots := 6, locals := 90 }
abbrev kl_X10_give : List (String × Int32) := [("java/lang/IllegalStateException", 1)]
def wx_X10_give (a1 : Int32) (σ : S9) (Φ : Int32 → S9 → Prop) (Θ : Int32 → S9 → Prop) : Prop := ((σ.1 3) = (300 : Int32) → Θ (1 : Int32) σ) ∧ (¬ (σ.1 3) = (300 : Int32) → wp_X2_append a1 σ (fun σ1 => Φ (σ1.1 3) σ1))
theorem dX10_give_0 : decode cX10_give 0 = .ok (.aload_n 0, 1) := by decide +kernel
theorem dX10_give_1 : decode cX10_give 1 = .ok (.getfield 19, 3) := by decide +kernel
theorem dX10_give_4 : decode cX10_give 4 = .ok (.getfield 92, 3) := by decide +kernel
theorem dX10_give_7 : decode cX10_give 7 = .ok (.sipush 300, 3) := by decide +kernel
theorem dX10_give_10 : decode cX10_give 10 = .ok (.if_icmp .ne 13, 3) := by decide +kernel
theorem dX10_give_13 : decode cX10_give 13 = .ok (.new 70, 3) := by decide +kernel
theorem dX10_give_16 : decode cX10_give 16 = .ok (.dup, 1) := by decide +kernel
theorem dX10_give_17 : decode cX10_give 17 = .ok (.ldc 95, 2) := by decide +kernel
theorem dX10_give_19 : decode cX10_give 19 = .ok (.invokespecial 74, 3) := by decide +kernel
theorem dX10_give_22 : decode cX10_give 22 = .ok (.athrow, 1) := by decide +kernel
theorem dX10_give_23 : decode cX10_give 23 = .ok (.aload_n 0, 1) := by decide +kernel
theorem dX10_give_24 : decode cX10_give 24 = .ok (.getfield 19, 3) := by decide +kernel
theorem dX10_give_27 : decode cX10_give 27 = .ok (.iload_n 1, 1) := by decide +kernel
theorem dX10_give_28 : decode cX10_give 28 = .ok (.invokevirtual 97, 3) := by decide +kernel
theorem dX10_give_31 : decode cX10_give 31 = .ok (.aload_n 0, 1) := by decide +kernel
theorem dX10_give_32 : decode cX10_give 32 = .ok (.getfield 19, 3) := by decide +kernel
theorem dX10_give_35 : decode cX10_give 35 = .ok (.getfield 92, 3) := by decide +kernel
theorem dX10_give_38 : decode cX10_give 38 = .ok (.ireturn, 1) := by decide +kernel
set_option maxRecDepth 20000 in
set_option maxHeartbeats 4000000 in
theorem x_X10_give {G : GG} (hJ : gJ 40 G) (l : Launch) (hst : l.stackTraces = false) (a1 : Int32) (σ : S9) (Φ : Int32 → S9 → Prop) (Θ : Int32 → S9 → Prop) (hq : wx_X10_give a1 σ Φ Θ) : XI cwl 40 G l yX10_give cX10_give 2 (some .int) rm_X10_give [.ref (gAd G 0), .int a1] σ Φ kl_X10_give Θ := by
  refine XI.intro (by decide) (Nat.le_of_ble_eq_true rfl) hJ ?_
  intro p e s m args below meth c ls hE hT hx0 hml hr hlk hw hl
  have hl : lv_has ls 2 [(0, .ref (gAd G 0)), (1, .int a1)] := hl
  unfold wx_X10_give at hq
  refine lv_aload_n hE.1 hE.2.1 dX10_give_0 rfl (lv_at hl 0 rfl) ?_
  refine cgf_X10_19 hE hw dX10_give_1 ?_
  refine cgf_X10_92 hE hw dX10_give_4 ?_
  refine lv_sipush (v := (300 : Int32)) hE.1 hE.2.1 dX10_give_7 (by decide) ?_
  refine lv_icmp_ne (tgt := 23) hE.1 hE.2.1 dX10_give_10 (by decide) (fun c1 => ?_) (fun c1 => ?_)
  · have hq := hq.2 c1
    refine lv_aload_n hE.1 hE.2.1 dX10_give_23 rfl (lv_at hl 0 rfl) ?_
    refine cgf_X10_19 hE hw dX10_give_24 ?_
    refine lv_iload_n hE.1 hE.2.1 dX10_give_27 rfl (lv_at hl 1 rfl) ?_
    refine clVv (rest := []) (As := [.int a1]) hE hml hl.1 hw (c_X2_append hE.2.2.2.2.2 l _ _ _ hq) cu357 cu359 cu360 cu361 cu358 rfl (k := 1) (by decide +kernel) (by decide) (ci := 2) rfl (q0 := 2) rfl rfl rfl (Nat.le_of_ble_eq_true rfl) dX10_give_28 (by decide) (fun σ1 hq H locs hw => ?_)
    refine lv_aload_n hE.1 hE.2.1 dX10_give_31 rfl (lv_at hl 0 rfl) ?_
    refine cgf_X10_19 hE hw dX10_give_32 ?_
    refine cgf_X10_92 hE hw dX10_give_35 ?_
    exact rtIX hE hr hlk hw hq dX10_give_38
  · have hq := hq.1 c1
    exact thr (k := 1) (is := 95) (text := "the input has 300 values") hE hT hst hx0 hw wk_ISE (List.mem_of_getElem? (i := 1) rfl) (by decide) (by decide) (by decide) hq hml hl.1 dX10_give_13 dX10_give_16 dX10_give_17 dX10_give_19 dX10_give_22 (by decide) hlk
/-! QueueBench.start()V -/
abbrev rm_X10_start : Room := { frames := 6, cells := 1, slots := 6, locals := 90 }
abbrev kl_X10_start : List (String × Int32) := [("java/lang/IllegalStateException", 1)]
def wx_X10_start  (σ : S9) (Φ : S9 → Prop) (Θ : Int32 → S9 → Prop) : Prop := ((σ.1 0) = 0 → Θ (1 : Int32) σ) ∧ (¬ (σ.1 0) = 0 → wp_X3_rewind σ (fun σ1 => ∀ σ2 : S9, σ2 = sF σ1 1 (1 : Int32) → Φ σ2))
theorem dX10_start_0 : decode cX10_start 0 = .ok (.aload_n 0, 1) := by decide +kernel
theorem dX10_start_1 : decode cX10_start 1 = .ok (.getfield 85, 3) := by decide +kernel
theorem dX10_start_4 : decode cX10_start 4 = .ok (.ifCond .ne 13, 3) := by decide +kernel
theorem dX10_start_7 : decode cX10_start 7 = .ok (.new 70, 3) := by decide +kernel
theorem dX10_start_10 : decode cX10_start 10 = .ok (.dup, 1) := by decide +kernel
theorem dX10_start_11 : decode cX10_start 11 = .ok (.ldc 98, 2) := by decide +kernel
theorem dX10_start_13 : decode cX10_start 13 = .ok (.invokespecial 74, 3) := by decide +kernel
theorem dX10_start_16 : decode cX10_start 16 = .ok (.athrow, 1) := by decide +kernel
theorem dX10_start_17 : decode cX10_start 17 = .ok (.aload_n 0, 1) := by decide +kernel
theorem dX10_start_18 : decode cX10_start 18 = .ok (.getfield 51, 3) := by decide +kernel
theorem dX10_start_21 : decode cX10_start 21 = .ok (.invokevirtual 100, 3) := by decide +kernel
theorem dX10_start_24 : decode cX10_start 24 = .ok (.aload_n 0, 1) := by decide +kernel
theorem dX10_start_25 : decode cX10_start 25 = .ok (.iconst 1, 1) := by decide +kernel
theorem dX10_start_26 : decode cX10_start 26 = .ok (.putfield 89, 3) := by decide +kernel
theorem dX10_start_29 : decode cX10_start 29 = .ok (.return_, 1) := by decide +kernel
set_option maxRecDepth 20000 in
set_option maxHeartbeats 4000000 in
theorem x_X10_start {G : GG} (hJ : gJ 40 G) (l : Launch) (hst : l.stackTraces = false)  (σ : S9) (Φ : S9 → Prop) (Θ : Int32 → S9 → Prop) (hq : wx_X10_start  σ Φ Θ) : XV cwl 40 G l yX10_start cX10_start 1 rm_X10_start [.ref (gAd G 0)] σ Φ kl_X10_start Θ := by
  refine XV.intro (by decide) (Nat.le_of_ble_eq_true rfl) hJ ?_
  intro p e s m args below meth c ls hE hT hx0 hml hr hlk hw hl
  have hl : lv_has ls 1 [(0, .ref (gAd G 0))] := hl
  unfold wx_X10_start at hq
  refine lv_aload_n hE.1 hE.2.1 dX10_start_0 rfl (lv_at hl 0 rfl) ?_
  refine cgf_X10_85 hE hw dX10_start_1 ?_
  refine lv_if_ne (tgt := 17) hE.1 hE.2.1 dX10_start_4 (by decide) (fun c1 => ?_) (fun c1 => ?_)
  · have hq := hq.2 c1
    refine lv_aload_n hE.1 hE.2.1 dX10_start_17 rfl (lv_at hl 0 rfl) ?_
    refine cgf_X10_51 hE hw dX10_start_18 ?_
    refine clVv (rest := []) (As := []) hE hml hl.1 hw (c_X3_rewind hE.2.2.2.2.2 l _ _ hq) cu363 cu364 cu365 cu366 cu38 rfl (k := 0) (by decide +kernel) (by decide) (ci := 3) rfl (q0 := 8) rfl rfl rfl (Nat.le_of_ble_eq_true rfl) dX10_start_21 (by decide) (fun σ1 hq H locs hw => ?_)
    refine lv_aload_n hE.1 hE.2.1 dX10_start_24 rfl (lv_at hl 0 rfl) ?_
    refine lv_iconst (v := (1 : Int32)) hE.1 hE.2.1 dX10_start_25 (by decide) ?_
    refine cpf_X10_89 hE hw rfl (by decide) dX10_start_26 (fun σ2 eσ2 H locs hw => ?_)
    have hq := hq σ2 eσ2
    exact rtVX hE hr hlk hw hq dX10_start_29
  · have hq := hq.1 c1
    exact thr (k := 1) (is := 98) (text := "there is no program") hE hT hst hx0 hw wk_ISE (List.mem_of_getElem? (i := 2) rfl) (by decide) (by decide) (by decide) hq hml hl.1 dX10_start_7 dX10_start_10 dX10_start_11 dX10_start_13 dX10_start_16 (by decide) hlk
/-! QueueBench.run(I)I -/
abbrev rm_X10_run : Room := { frames := 7, cells := 1, slots := 6, locals := 149 }
abbrev kl_X10_run : List (String × Int32) := [("java/lang/IllegalArgumentException", 1), ("java/lang/IllegalStateException", 2)]
def wx_X10_run (a1 : Int32) (σ : S9) (Φ : Int32 → S9 → Prop) (Θ : Int32 → S9 → Prop) : Prop := (a1 < 0 → Θ (1 : Int32) σ) ∧ (¬ a1 < 0 → (a1 ≤ (1000 : Int32) → ((σ.1 1) = 0 → Θ (2 : Int32) σ) ∧ (¬ (σ.1 1) = 0 → wp_X3_doSteps a1 σ (fun r4 σ1 => Φ r4 σ1))) ∧ (¬ a1 ≤ (1000 : Int32) → Θ (1 : Int32) σ))
theorem dX10_run_0 : decode cX10_run 0 = .ok (.iload_n 1, 1) := by decide +kernel
theorem dX10_run_1 : decode cX10_run 1 = .ok (.ifCond .lt 10, 3) := by decide +kernel
theorem dX10_run_4 : decode cX10_run 4 = .ok (.iload_n 1, 1) := by decide +kernel
theorem dX10_run_5 : decode cX10_run 5 = .ok (.sipush 1000, 3) := by decide +kernel
theorem dX10_run_8 : decode cX10_run 8 = .ok (.if_icmp .le 13, 3) := by decide +kernel
theorem dX10_run_11 : decode cX10_run 11 = .ok (.new 103, 3) := by decide +kernel
theorem dX10_run_14 : decode cX10_run 14 = .ok (.dup, 1) := by decide +kernel
theorem dX10_run_15 : decode cX10_run 15 = .ok (.ldc 105, 2) := by decide +kernel
theorem dX10_run_17 : decode cX10_run 17 = .ok (.invokespecial 107, 3) := by decide +kernel
theorem dX10_run_20 : decode cX10_run 20 = .ok (.athrow, 1) := by decide +kernel
theorem dX10_run_21 : decode cX10_run 21 = .ok (.aload_n 0, 1) := by decide +kernel
theorem dX10_run_22 : decode cX10_run 22 = .ok (.getfield 89, 3) := by decide +kernel
theorem dX10_run_25 : decode cX10_run 25 = .ok (.ifCond .ne 13, 3) := by decide +kernel
theorem dX10_run_28 : decode cX10_run 28 = .ok (.new 70, 3) := by decide +kernel
theorem dX10_run_31 : decode cX10_run 31 = .ok (.dup, 1) := by decide +kernel
theorem dX10_run_32 : decode cX10_run 32 = .ok (.ldc 108, 2) := by decide +kernel
theorem dX10_run_34 : decode cX10_run 34 = .ok (.invokespecial 74, 3) := by decide +kernel
theorem dX10_run_37 : decode cX10_run 37 = .ok (.athrow, 1) := by decide +kernel
theorem dX10_run_38 : decode cX10_run 38 = .ok (.aload_n 0, 1) := by decide +kernel
theorem dX10_run_39 : decode cX10_run 39 = .ok (.getfield 51, 3) := by decide +kernel
theorem dX10_run_42 : decode cX10_run 42 = .ok (.iload_n 1, 1) := by decide +kernel
theorem dX10_run_43 : decode cX10_run 43 = .ok (.invokevirtual 110, 3) := by decide +kernel
theorem dX10_run_46 : decode cX10_run 46 = .ok (.ireturn, 1) := by decide +kernel
set_option maxRecDepth 20000 in
set_option maxHeartbeats 4000000 in
theorem x_X10_run {G : GG} (hJ : gJ 40 G) (l : Launch) (hst : l.stackTraces = false) (a1 : Int32) (σ : S9) (Φ : Int32 → S9 → Prop) (Θ : Int32 → S9 → Prop) (hq : wx_X10_run a1 σ Φ Θ) : XI cwl 40 G l yX10_run cX10_run 2 (some .int) rm_X10_run [.ref (gAd G 0), .int a1] σ Φ kl_X10_run Θ := by
  refine XI.intro (by decide) (Nat.le_of_ble_eq_true rfl) hJ ?_
  intro p e s m args below meth c ls hE hT hx0 hml hr hlk hw hl
  have hl : lv_has ls 2 [(0, .ref (gAd G 0)), (1, .int a1)] := hl
  unfold wx_X10_run at hq
  refine lv_iload_n hE.1 hE.2.1 dX10_run_0 rfl (lv_at hl 1 rfl) ?_
  refine lv_if_lt (tgt := 11) hE.1 hE.2.1 dX10_run_1 (by decide) (fun c1 => ?_) (fun c1 => ?_)
  · have hq := hq.1 c1
    exact thr (k := 1) (is := 105) (text := "the number of steps is not 0 .. 1000") hE hT hst hx0 hw wk_IAE (List.mem_of_getElem? (i := 3) rfl) (by decide) (by decide) (by decide) hq hml hl.1 dX10_run_11 dX10_run_14 dX10_run_15 dX10_run_17 dX10_run_20 (by decide) hlk
  · have hq := hq.2 c1
    refine lv_iload_n hE.1 hE.2.1 dX10_run_4 rfl (lv_at hl 1 rfl) ?_
    refine lv_sipush (v := (1000 : Int32)) hE.1 hE.2.1 dX10_run_5 (by decide) ?_
    refine lv_icmp_le (tgt := 21) hE.1 hE.2.1 dX10_run_8 (by decide) (fun c2 => ?_) (fun c2 => ?_)
    · have hq := hq.1 c2
      refine lv_aload_n hE.1 hE.2.1 dX10_run_21 rfl (lv_at hl 0 rfl) ?_
      refine cgf_X10_89 hE hw dX10_run_22 ?_
      refine lv_if_ne (tgt := 38) hE.1 hE.2.1 dX10_run_25 (by decide) (fun c3 => ?_) (fun c3 => ?_)
      · have hq := hq.2 c3
        refine lv_aload_n hE.1 hE.2.1 dX10_run_38 rfl (lv_at hl 0 rfl) ?_
        refine cgf_X10_51 hE hw dX10_run_39 ?_
        refine lv_iload_n hE.1 hE.2.1 dX10_run_42 rfl (lv_at hl 1 rfl) ?_
        refine clVi (rest := []) (As := [.int a1]) hE hml hl.1 hw (c_X3_doSteps hE.2.2.2.2.2 l _ _ _ hq) cu367 cu368 cu369 cu370 cu38 rfl (k := 1) (by decide +kernel) (by decide) (ci := 3) rfl (q0 := 8) rfl rfl rfl (Nat.le_of_ble_eq_true rfl) dX10_run_43 (by decide) (fun r4 σ1 hq H locs hw => ?_)
        exact rtIX hE hr hlk hw hq dX10_run_46
      · have hq := hq.1 c3
        exact thr (k := 2) (is := 108) (text := "no program was started") hE hT hst hx0 hw wk_ISE (List.mem_of_getElem? (i := 4) rfl) (by decide) (by decide) (by decide) hq hml hl.1 dX10_run_28 dX10_run_31 dX10_run_32 dX10_run_34 dX10_run_37 (by decide) hlk
    · have hq := hq.2 c2
      exact thr (k := 1) (is := 105) (text := "the number of steps is not 0 .. 1000") hE hT hst hx0 hw wk_IAE (List.mem_of_getElem? (i := 3) rfl) (by decide) (by decide) (by decide) hq hml hl.1 dX10_run_11 dX10_run_14 dX10_run_15 dX10_run_17 dX10_run_20 (by decide) hlk
/-! QueueBench.state(I)I -/
abbrev rm_X10_state : Room := { frames := 6, cells := 1, slots := 6, locals := 90 }
abbrev kl_X10_state : List (String × Int32) := [("java/lang/IllegalArgumentException", 1), ("java/lang/IllegalStateException", 2)]
def wx_X10_state (a1 : Int32) (σ : S9) (Φ : Int32 → S9 → Prop) (Θ : Int32 → S9 → Prop) : Prop := (a1 < 0 → Θ (1 : Int32) σ) ∧ (¬ a1 < 0 → (a1 ≤ (4 : Int32) → ((σ.1 1) = 0 → Θ (2 : Int32) σ) ∧ (¬ (σ.1 1) = 0 → (a1 = (0 : Int32) → wp_X3_condition σ (fun r5 σ1 => Φ r5 σ1)) ∧ (¬ a1 = (0 : Int32) → (a1 = (1 : Int32) → Φ (σ.1 21) σ) ∧ (¬ a1 = (1 : Int32) → (a1 = (2 : Int32) → Φ (σ.1 17) σ) ∧ (¬ a1 = (2 : Int32) → (a1 = (3 : Int32) → Φ (σ.1 22) σ) ∧ (¬ a1 = (3 : Int32) → wp_X3_place σ (fun r9 σ2 => Φ r9 σ2))))))) ∧ (¬ a1 ≤ (4 : Int32) → Θ (1 : Int32) σ))
theorem dX10_state_0 : decode cX10_state 0 = .ok (.iload_n 1, 1) := by decide +kernel
theorem dX10_state_1 : decode cX10_state 1 = .ok (.ifCond .lt 8, 3) := by decide +kernel
theorem dX10_state_4 : decode cX10_state 4 = .ok (.iload_n 1, 1) := by decide +kernel
theorem dX10_state_5 : decode cX10_state 5 = .ok (.iconst 4, 1) := by decide +kernel
theorem dX10_state_6 : decode cX10_state 6 = .ok (.if_icmp .le 13, 3) := by decide +kernel
theorem dX10_state_9 : decode cX10_state 9 = .ok (.new 103, 3) := by decide +kernel
theorem dX10_state_12 : decode cX10_state 12 = .ok (.dup, 1) := by decide +kernel
theorem dX10_state_13 : decode cX10_state 13 = .ok (.ldc 113, 2) := by decide +kernel
theorem dX10_state_15 : decode cX10_state 15 = .ok (.invokespecial 107, 3) := by decide +kernel
theorem dX10_state_18 : decode cX10_state 18 = .ok (.athrow, 1) := by decide +kernel
theorem dX10_state_19 : decode cX10_state 19 = .ok (.aload_n 0, 1) := by decide +kernel
theorem dX10_state_20 : decode cX10_state 20 = .ok (.getfield 89, 3) := by decide +kernel
theorem dX10_state_23 : decode cX10_state 23 = .ok (.ifCond .ne 13, 3) := by decide +kernel
theorem dX10_state_26 : decode cX10_state 26 = .ok (.new 70, 3) := by decide +kernel
theorem dX10_state_29 : decode cX10_state 29 = .ok (.dup, 1) := by decide +kernel
theorem dX10_state_30 : decode cX10_state 30 = .ok (.ldc 108, 2) := by decide +kernel
theorem dX10_state_32 : decode cX10_state 32 = .ok (.invokespecial 74, 3) := by decide +kernel
theorem dX10_state_35 : decode cX10_state 35 = .ok (.athrow, 1) := by decide +kernel
theorem dX10_state_36 : decode cX10_state 36 = .ok (.iload_n 1, 1) := by decide +kernel
theorem dX10_state_37 : decode cX10_state 37 = .ok (.tableswitch 63 0 3 #[31, 39, 47, 55], 31) := by decide +kernel
theorem dX10_state_68 : decode cX10_state 68 = .ok (.aload_n 0, 1) := by decide +kernel
theorem dX10_state_69 : decode cX10_state 69 = .ok (.getfield 51, 3) := by decide +kernel
theorem dX10_state_72 : decode cX10_state 72 = .ok (.invokevirtual 115, 3) := by decide +kernel
theorem dX10_state_75 : decode cX10_state 75 = .ok (.ireturn, 1) := by decide +kernel
theorem dX10_state_76 : decode cX10_state 76 = .ok (.aload_n 0, 1) := by decide +kernel
theorem dX10_state_77 : decode cX10_state 77 = .ok (.getfield 51, 3) := by decide +kernel
theorem dX10_state_80 : decode cX10_state 80 = .ok (.getfield 118, 3) := by decide +kernel
theorem dX10_state_83 : decode cX10_state 83 = .ok (.ireturn, 1) := by decide +kernel
theorem dX10_state_84 : decode cX10_state 84 = .ok (.aload_n 0, 1) := by decide +kernel
theorem dX10_state_85 : decode cX10_state 85 = .ok (.getfield 42, 3) := by decide +kernel
theorem dX10_state_88 : decode cX10_state 88 = .ok (.getfield 121, 3) := by decide +kernel
theorem dX10_state_91 : decode cX10_state 91 = .ok (.ireturn, 1) := by decide +kernel
theorem dX10_state_92 : decode cX10_state 92 = .ok (.aload_n 0, 1) := by decide +kernel
theorem dX10_state_93 : decode cX10_state 93 = .ok (.getfield 51, 3) := by decide +kernel
theorem dX10_state_96 : decode cX10_state 96 = .ok (.getfield 124, 3) := by decide +kernel
theorem dX10_state_99 : decode cX10_state 99 = .ok (.ireturn, 1) := by decide +kernel
theorem dX10_state_100 : decode cX10_state 100 = .ok (.aload_n 0, 1) := by decide +kernel
theorem dX10_state_101 : decode cX10_state 101 = .ok (.getfield 51, 3) := by decide +kernel
theorem dX10_state_104 : decode cX10_state 104 = .ok (.invokevirtual 127, 3) := by decide +kernel
theorem dX10_state_107 : decode cX10_state 107 = .ok (.ireturn, 1) := by decide +kernel
set_option maxRecDepth 20000 in
set_option maxHeartbeats 4000000 in
theorem x_X10_state {G : GG} (hJ : gJ 40 G) (l : Launch) (hst : l.stackTraces = false) (a1 : Int32) (σ : S9) (Φ : Int32 → S9 → Prop) (Θ : Int32 → S9 → Prop) (hq : wx_X10_state a1 σ Φ Θ) : XI cwl 40 G l yX10_state cX10_state 2 (some .int) rm_X10_state [.ref (gAd G 0), .int a1] σ Φ kl_X10_state Θ := by
  refine XI.intro (by decide) (Nat.le_of_ble_eq_true rfl) hJ ?_
  intro p e s m args below meth c ls hE hT hx0 hml hr hlk hw hl
  have hl : lv_has ls 2 [(0, .ref (gAd G 0)), (1, .int a1)] := hl
  unfold wx_X10_state at hq
  refine lv_iload_n hE.1 hE.2.1 dX10_state_0 rfl (lv_at hl 1 rfl) ?_
  refine lv_if_lt (tgt := 9) hE.1 hE.2.1 dX10_state_1 (by decide) (fun c1 => ?_) (fun c1 => ?_)
  · have hq := hq.1 c1
    exact thr (k := 1) (is := 113) (text := "there is no such state") hE hT hst hx0 hw wk_IAE (List.mem_of_getElem? (i := 5) rfl) (by decide) (by decide) (by decide) hq hml hl.1 dX10_state_9 dX10_state_12 dX10_state_13 dX10_state_15 dX10_state_18 (by decide) hlk
  · have hq := hq.2 c1
    refine lv_iload_n hE.1 hE.2.1 dX10_state_4 rfl (lv_at hl 1 rfl) ?_
    refine lv_iconst (v := (4 : Int32)) hE.1 hE.2.1 dX10_state_5 (by decide) ?_
    refine lv_icmp_le (tgt := 19) hE.1 hE.2.1 dX10_state_6 (by decide) (fun c2 => ?_) (fun c2 => ?_)
    · have hq := hq.1 c2
      refine lv_aload_n hE.1 hE.2.1 dX10_state_19 rfl (lv_at hl 0 rfl) ?_
      refine cgf_X10_89 hE hw dX10_state_20 ?_
      refine lv_if_ne (tgt := 36) hE.1 hE.2.1 dX10_state_23 (by decide) (fun c3 => ?_) (fun c3 => ?_)
      · have hq := hq.2 c3
        refine lv_iload_n hE.1 hE.2.1 dX10_state_36 rfl (lv_at hl 1 rfl) ?_
        by_cases c4 : a1 = (0 : Int32)
        · have hq := hq.1 c4
          refine lv_tableH (off := 31) (tgt := 68) hE.1 hE.2.1 dX10_state_37 c4 (by decide) (by decide) (by decide) (by decide) ?_
          refine lv_aload_n hE.1 hE.2.1 dX10_state_68 rfl (lv_at hl 0 rfl) ?_
          refine cgf_X10_51 hE hw dX10_state_69 ?_
          refine clVi (rest := []) (As := []) hE hml hl.1 hw (c_X3_condition hE.2.2.2.2.2 l _ _ hq) cu371 cu372 cu373 cu374 cu38 rfl (k := 0) (by decide +kernel) (by decide) (ci := 3) rfl (q0 := 8) rfl rfl rfl (Nat.le_of_ble_eq_true rfl) dX10_state_72 (by decide) (fun r5 σ1 hq H locs hw => ?_)
          exact rtIX hE hr hlk hw hq dX10_state_75
        · have hq := hq.2 c4
          by_cases c6 : a1 = (1 : Int32)
          · have hq := hq.1 c6
            refine lv_tableH (off := 39) (tgt := 76) hE.1 hE.2.1 dX10_state_37 c6 (by decide) (by decide) (by decide) (by decide) ?_
            refine lv_aload_n hE.1 hE.2.1 dX10_state_76 rfl (lv_at hl 0 rfl) ?_
            refine cgf_X10_51 hE hw dX10_state_77 ?_
            refine cgf_X10_118 hE hw dX10_state_80 ?_
            exact rtIX hE hr hlk hw hq dX10_state_83
          · have hq := hq.2 c6
            by_cases c7 : a1 = (2 : Int32)
            · have hq := hq.1 c7
              refine lv_tableH (off := 47) (tgt := 84) hE.1 hE.2.1 dX10_state_37 c7 (by decide) (by decide) (by decide) (by decide) ?_
              refine lv_aload_n hE.1 hE.2.1 dX10_state_84 rfl (lv_at hl 0 rfl) ?_
              refine cgf_X10_42 hE hw dX10_state_85 ?_
              refine cgf_X10_121 hE hw dX10_state_88 ?_
              exact rtIX hE hr hlk hw hq dX10_state_91
            · have hq := hq.2 c7
              by_cases c8 : a1 = (3 : Int32)
              · have hq := hq.1 c8
                refine lv_tableH (off := 55) (tgt := 92) hE.1 hE.2.1 dX10_state_37 c8 (by decide) (by decide) (by decide) (by decide) ?_
                refine lv_aload_n hE.1 hE.2.1 dX10_state_92 rfl (lv_at hl 0 rfl) ?_
                refine cgf_X10_51 hE hw dX10_state_93 ?_
                refine cgf_X10_124 hE hw dX10_state_96 ?_
                exact rtIX hE hr hlk hw hq dX10_state_99
              · have hq := hq.2 c8
                refine lv_tableD (ks := [0, 1, 2, 3]) (tgt := 100) hE.1 hE.2.1 dX10_state_37 (by simp only [List.forall_mem_cons, List.not_mem_nil, false_implies, implies_true, and_true]; exact ⟨c4, c6, c7, c8⟩) (by decide) (by decide) (by decide) ?_
                refine lv_aload_n hE.1 hE.2.1 dX10_state_100 rfl (lv_at hl 0 rfl) ?_
                refine cgf_X10_51 hE hw dX10_state_101 ?_
                refine clVi (rest := []) (As := []) hE hml hl.1 hw (c_X3_place hE.2.2.2.2.2 l _ _ hq) cu376 cu377 cu378 cu379 cu38 rfl (k := 0) (by decide +kernel) (by decide) (ci := 3) rfl (q0 := 8) rfl rfl rfl (Nat.le_of_ble_eq_true rfl) dX10_state_104 (by decide) (fun r9 σ2 hq H locs hw => ?_)
                exact rtIX hE hr hlk hw hq dX10_state_107
      · have hq := hq.1 c3
        exact thr (k := 2) (is := 108) (text := "no program was started") hE hT hst hx0 hw wk_ISE (List.mem_of_getElem? (i := 4) rfl) (by decide) (by decide) (by decide) hq hml hl.1 dX10_state_26 dX10_state_29 dX10_state_30 dX10_state_32 dX10_state_35 (by decide) hlk
    · have hq := hq.2 c2
      exact thr (k := 1) (is := 113) (text := "there is no such state") hE hT hst hx0 hw wk_IAE (List.mem_of_getElem? (i := 5) rfl) (by decide) (by decide) (by decide) hq hml hl.1 dX10_state_9 dX10_state_12 dX10_state_13 dX10_state_15 dX10_state_18 (by decide) hlk
/-! QueueBench.output(I)I -/
abbrev rm_X10_output : Room := { frames := 6, cells := 1, slots := 6, locals := 90 }
abbrev kl_X10_output : List (String × Int32) := [("java/util/NoSuchElementException", 1)]
def wx_X10_output (a1 : Int32) (σ : S9) (Φ : Int32 → S9 → Prop) (Θ : Int32 → S9 → Prop) : Prop := ((σ.1 1) = 0 → Θ (1 : Int32) σ) ∧ (¬ (σ.1 1) = 0 → wp_X5_keeps a1 σ (fun r2 σ1 => (r2 = 0 → Θ (1 : Int32) σ1) ∧ (¬ r2 = 0 → wp_X5_at a1 σ1 (fun r4 σ2 => Φ r4 σ2))))
theorem dX10_output_0 : decode cX10_output 0 = .ok (.aload_n 0, 1) := by decide +kernel
theorem dX10_output_1 : decode cX10_output 1 = .ok (.getfield 89, 3) := by decide +kernel
theorem dX10_output_4 : decode cX10_output 4 = .ok (.ifCond .eq 14, 3) := by decide +kernel
theorem dX10_output_7 : decode cX10_output 7 = .ok (.aload_n 0, 1) := by decide +kernel
theorem dX10_output_8 : decode cX10_output 8 = .ok (.getfield 42, 3) := by decide +kernel
theorem dX10_output_11 : decode cX10_output 11 = .ok (.iload_n 1, 1) := by decide +kernel
theorem dX10_output_12 : decode cX10_output 12 = .ok (.invokevirtual 130, 3) := by decide +kernel
theorem dX10_output_15 : decode cX10_output 15 = .ok (.ifCond .ne 13, 3) := by decide +kernel
theorem dX10_output_18 : decode cX10_output 18 = .ok (.new 134, 3) := by decide +kernel
theorem dX10_output_21 : decode cX10_output 21 = .ok (.dup, 1) := by decide +kernel
theorem dX10_output_22 : decode cX10_output 22 = .ok (.ldc 136, 2) := by decide +kernel
theorem dX10_output_24 : decode cX10_output 24 = .ok (.invokespecial 138, 3) := by decide +kernel
theorem dX10_output_27 : decode cX10_output 27 = .ok (.athrow, 1) := by decide +kernel
theorem dX10_output_28 : decode cX10_output 28 = .ok (.aload_n 0, 1) := by decide +kernel
theorem dX10_output_29 : decode cX10_output 29 = .ok (.getfield 42, 3) := by decide +kernel
theorem dX10_output_32 : decode cX10_output 32 = .ok (.iload_n 1, 1) := by decide +kernel
theorem dX10_output_33 : decode cX10_output 33 = .ok (.invokevirtual 139, 3) := by decide +kernel
theorem dX10_output_36 : decode cX10_output 36 = .ok (.ireturn, 1) := by decide +kernel
set_option maxRecDepth 20000 in
set_option maxHeartbeats 4000000 in
theorem x_X10_output {G : GG} (hJ : gJ 40 G) (l : Launch) (hst : l.stackTraces = false) (a1 : Int32) (σ : S9) (Φ : Int32 → S9 → Prop) (Θ : Int32 → S9 → Prop) (hq : wx_X10_output a1 σ Φ Θ) : XI cwl 40 G l yX10_output cX10_output 2 (some .int) rm_X10_output [.ref (gAd G 0), .int a1] σ Φ kl_X10_output Θ := by
  refine XI.intro (by decide) (Nat.le_of_ble_eq_true rfl) hJ ?_
  intro p e s m args below meth c ls hE hT hx0 hml hr hlk hw hl
  have hl : lv_has ls 2 [(0, .ref (gAd G 0)), (1, .int a1)] := hl
  unfold wx_X10_output at hq
  refine lv_aload_n hE.1 hE.2.1 dX10_output_0 rfl (lv_at hl 0 rfl) ?_
  refine cgf_X10_89 hE hw dX10_output_1 ?_
  refine lv_if_eq (tgt := 18) hE.1 hE.2.1 dX10_output_4 (by decide) (fun c1 => ?_) (fun c1 => ?_)
  · have hq := hq.1 c1
    exact thrN (k := 1) (is := 136) (text := "there is no such output") hE hT hst hx0 hw wk_NSE (List.mem_of_getElem? (i := 6) rfl) (by decide) rx_NSE (by decide) hq hml hl.1 dX10_output_18 dX10_output_21 dX10_output_22 dX10_output_24 dX10_output_27 (by decide) hlk
  · have hq := hq.2 c1
    refine lv_aload_n hE.1 hE.2.1 dX10_output_7 rfl (lv_at hl 0 rfl) ?_
    refine cgf_X10_42 hE hw dX10_output_8 ?_
    refine lv_iload_n hE.1 hE.2.1 dX10_output_11 rfl (lv_at hl 1 rfl) ?_
    refine clVi (rest := []) (As := [.int a1]) hE hml hl.1 hw (c_X5_keeps hE.2.2.2.2.2 l _ _ _ hq) cu380 cu381 cu382 cu383 cu73 rfl (k := 1) (by decide +kernel) (by decide) (ci := 5) rfl (q0 := 7) rfl rfl rfl (Nat.le_of_ble_eq_true rfl) dX10_output_12 (by decide) (fun r2 σ1 hq H locs hw => ?_)
    refine lv_if_ne (tgt := 28) hE.1 hE.2.1 dX10_output_15 (by decide) (fun c3 => ?_) (fun c3 => ?_)
    · have hq := hq.2 c3
      refine lv_aload_n hE.1 hE.2.1 dX10_output_28 rfl (lv_at hl 0 rfl) ?_
      refine cgf_X10_42 hE hw dX10_output_29 ?_
      refine lv_iload_n hE.1 hE.2.1 dX10_output_32 rfl (lv_at hl 1 rfl) ?_
      refine clVi (rest := []) (As := [.int a1]) hE hml hl.1 hw (c_X5_at hE.2.2.2.2.2 l _ _ _ hq) cu384 cu385 cu386 cu387 cu73 rfl (k := 1) (by decide +kernel) (by decide) (ci := 5) rfl (q0 := 7) rfl rfl rfl (Nat.le_of_ble_eq_true rfl) dX10_output_33 (by decide) (fun r4 σ2 hq H locs hw => ?_)
      exact rtIX hE hr hlk hw hq dX10_output_36
    · have hq := hq.1 c3
      exact thrN (k := 1) (is := 136) (text := "there is no such output") hE hT hst hx0 hw wk_NSE (List.mem_of_getElem? (i := 6) rfl) (by decide) rx_NSE (by decide) hq hml hl.1 dX10_output_18 dX10_output_21 dX10_output_22 dX10_output_24 dX10_output_27 (by decide) hlk
/-! QueueBench.name(I)I -/
abbrev rm_X10_name : Room := { frames := 6, cells := 1, slots := 6, locals := 90 }
abbrev kl_X10_name : List (String × Int32) := [("java/util/NoSuchElementException", 1)]
def wx_X10_name (a1 : Int32) (σ : S9) (Φ : Int32 → S9 → Prop) (Θ : Int32 → S9 → Prop) : Prop := ((σ.1 1) = 0 → Θ (1 : Int32) σ) ∧ (¬ (σ.1 1) = 0 → (a1 < 0 → Θ (1 : Int32) σ) ∧ (¬ a1 < 0 → (a1 < (26 : Int32) → vp_in a1 26 ∧ Φ (σ.2.1 20 (a1).toNatClampNeg) σ) ∧ (¬ a1 < (26 : Int32) → Θ (1 : Int32) σ)))
theorem dX10_name_0 : decode cX10_name 0 = .ok (.aload_n 0, 1) := by decide +kernel
theorem dX10_name_1 : decode cX10_name 1 = .ok (.getfield 89, 3) := by decide +kernel
theorem dX10_name_4 : decode cX10_name 4 = .ok (.ifCond .eq 13, 3) := by decide +kernel
theorem dX10_name_7 : decode cX10_name 7 = .ok (.iload_n 1, 1) := by decide +kernel
theorem dX10_name_8 : decode cX10_name 8 = .ok (.ifCond .lt 9, 3) := by decide +kernel
theorem dX10_name_11 : decode cX10_name 11 = .ok (.iload_n 1, 1) := by decide +kernel
theorem dX10_name_12 : decode cX10_name 12 = .ok (.bipush 26, 2) := by decide +kernel
theorem dX10_name_14 : decode cX10_name 14 = .ok (.if_icmp .lt 13, 3) := by decide +kernel
theorem dX10_name_17 : decode cX10_name 17 = .ok (.new 134, 3) := by decide +kernel
theorem dX10_name_20 : decode cX10_name 20 = .ok (.dup, 1) := by decide +kernel
theorem dX10_name_21 : decode cX10_name 21 = .ok (.ldc 142, 2) := by decide +kernel
theorem dX10_name_23 : decode cX10_name 23 = .ok (.invokespecial 138, 3) := by decide +kernel
theorem dX10_name_26 : decode cX10_name 26 = .ok (.athrow, 1) := by decide +kernel
theorem dX10_name_27 : decode cX10_name 27 = .ok (.aload_n 0, 1) := by decide +kernel
theorem dX10_name_28 : decode cX10_name 28 = .ok (.getfield 51, 3) := by decide +kernel
theorem dX10_name_31 : decode cX10_name 31 = .ok (.getfield 144, 3) := by decide +kernel
theorem dX10_name_34 : decode cX10_name 34 = .ok (.iload_n 1, 1) := by decide +kernel
theorem dX10_name_35 : decode cX10_name 35 = .ok (.iaload, 1) := by decide +kernel
theorem dX10_name_36 : decode cX10_name 36 = .ok (.ireturn, 1) := by decide +kernel
set_option maxRecDepth 20000 in
set_option maxHeartbeats 4000000 in
theorem x_X10_name {G : GG} (hJ : gJ 40 G) (l : Launch) (hst : l.stackTraces = false) (a1 : Int32) (σ : S9) (Φ : Int32 → S9 → Prop) (Θ : Int32 → S9 → Prop) (hq : wx_X10_name a1 σ Φ Θ) : XI cwl 40 G l yX10_name cX10_name 2 (some .int) rm_X10_name [.ref (gAd G 0), .int a1] σ Φ kl_X10_name Θ := by
  refine XI.intro (by decide) (Nat.le_of_ble_eq_true rfl) hJ ?_
  intro p e s m args below meth c ls hE hT hx0 hml hr hlk hw hl
  have hl : lv_has ls 2 [(0, .ref (gAd G 0)), (1, .int a1)] := hl
  unfold wx_X10_name at hq
  refine lv_aload_n hE.1 hE.2.1 dX10_name_0 rfl (lv_at hl 0 rfl) ?_
  refine cgf_X10_89 hE hw dX10_name_1 ?_
  refine lv_if_eq (tgt := 17) hE.1 hE.2.1 dX10_name_4 (by decide) (fun c1 => ?_) (fun c1 => ?_)
  · have hq := hq.1 c1
    exact thrN (k := 1) (is := 142) (text := "there is no such name") hE hT hst hx0 hw wk_NSE (List.mem_of_getElem? (i := 7) rfl) (by decide) rx_NSE (by decide) hq hml hl.1 dX10_name_17 dX10_name_20 dX10_name_21 dX10_name_23 dX10_name_26 (by decide) hlk
  · have hq := hq.2 c1
    refine lv_iload_n hE.1 hE.2.1 dX10_name_7 rfl (lv_at hl 1 rfl) ?_
    refine lv_if_lt (tgt := 17) hE.1 hE.2.1 dX10_name_8 (by decide) (fun c2 => ?_) (fun c2 => ?_)
    · have hq := hq.1 c2
      exact thrN (k := 1) (is := 142) (text := "there is no such name") hE hT hst hx0 hw wk_NSE (List.mem_of_getElem? (i := 7) rfl) (by decide) rx_NSE (by decide) hq hml hl.1 dX10_name_17 dX10_name_20 dX10_name_21 dX10_name_23 dX10_name_26 (by decide) hlk
    · have hq := hq.2 c2
      refine lv_iload_n hE.1 hE.2.1 dX10_name_11 rfl (lv_at hl 1 rfl) ?_
      refine lv_bipush (v := (26 : Int32)) hE.1 hE.2.1 dX10_name_12 (by decide) ?_
      refine lv_icmp_lt (tgt := 27) hE.1 hE.2.1 dX10_name_14 (by decide) (fun c3 => ?_) (fun c3 => ?_)
      · have hq := hq.1 c3
        refine lv_aload_n hE.1 hE.2.1 dX10_name_27 rfl (lv_at hl 0 rfl) ?_
        refine cgf_X10_51 hE hw dX10_name_28 ?_
        refine cgf_X10_144 hE hw dX10_name_31 ?_
        refine lv_iload_n hE.1 hE.2.1 dX10_name_34 rfl (lv_at hl 1 rfl) ?_
        obtain ⟨hi4, hq⟩ := hq
        refine cal_32 hE hw hi4 dX10_name_35 ?_
        exact rtIX hE hr hlk hw hq dX10_name_36
      · have hq := hq.2 c3
        exact thrN (k := 1) (is := 142) (text := "there is no such name") hE hT hst hx0 hw wk_NSE (List.mem_of_getElem? (i := 7) rfl) (by decide) rx_NSE (by decide) hq hml hl.1 dX10_name_17 dX10_name_20 dX10_name_21 dX10_name_23 dX10_name_26 (by decide) hlk
/-! QueueBench.cell(I)I -/
abbrev rm_X10_cell : Room := { frames := 6, cells := 1, slots := 6, locals := 90 }
abbrev kl_X10_cell : List (String × Int32) := [("java/util/NoSuchElementException", 1)]
def wx_X10_cell (a1 : Int32) (σ : S9) (Φ : Int32 → S9 → Prop) (Θ : Int32 → S9 → Prop) : Prop := ((σ.1 1) = 0 → Θ (1 : Int32) σ) ∧ (¬ (σ.1 1) = 0 → wp_X10_isCell a1 σ (fun r2 σ1 => (r2 = 0 → Θ (1 : Int32) σ1) ∧ (¬ r2 = 0 → vp_in a1 100 ∧ Φ (σ1.2.1 21 (a1).toNatClampNeg) σ1)))
theorem dX10_cell_0 : decode cX10_cell 0 = .ok (.aload_n 0, 1) := by decide +kernel
theorem dX10_cell_1 : decode cX10_cell 1 = .ok (.getfield 89, 3) := by decide +kernel
theorem dX10_cell_4 : decode cX10_cell 4 = .ok (.ifCond .eq 10, 3) := by decide +kernel
theorem dX10_cell_7 : decode cX10_cell 7 = .ok (.iload_n 1, 1) := by decide +kernel
theorem dX10_cell_8 : decode cX10_cell 8 = .ok (.invokestatic 148, 3) := by decide +kernel
theorem dX10_cell_11 : decode cX10_cell 11 = .ok (.ifCond .ne 13, 3) := by decide +kernel
theorem dX10_cell_14 : decode cX10_cell 14 = .ok (.new 134, 3) := by decide +kernel
theorem dX10_cell_17 : decode cX10_cell 17 = .ok (.dup, 1) := by decide +kernel
theorem dX10_cell_18 : decode cX10_cell 18 = .ok (.ldc 151, 2) := by decide +kernel
theorem dX10_cell_20 : decode cX10_cell 20 = .ok (.invokespecial 138, 3) := by decide +kernel
theorem dX10_cell_23 : decode cX10_cell 23 = .ok (.athrow, 1) := by decide +kernel
theorem dX10_cell_24 : decode cX10_cell 24 = .ok (.aload_n 0, 1) := by decide +kernel
theorem dX10_cell_25 : decode cX10_cell 25 = .ok (.getfield 51, 3) := by decide +kernel
theorem dX10_cell_28 : decode cX10_cell 28 = .ok (.getfield 153, 3) := by decide +kernel
theorem dX10_cell_31 : decode cX10_cell 31 = .ok (.iload_n 1, 1) := by decide +kernel
theorem dX10_cell_32 : decode cX10_cell 32 = .ok (.iaload, 1) := by decide +kernel
theorem dX10_cell_33 : decode cX10_cell 33 = .ok (.ireturn, 1) := by decide +kernel
set_option maxRecDepth 20000 in
set_option maxHeartbeats 4000000 in
theorem x_X10_cell {G : GG} (hJ : gJ 40 G) (l : Launch) (hst : l.stackTraces = false) (a1 : Int32) (σ : S9) (Φ : Int32 → S9 → Prop) (Θ : Int32 → S9 → Prop) (hq : wx_X10_cell a1 σ Φ Θ) : XI cwl 40 G l yX10_cell cX10_cell 2 (some .int) rm_X10_cell [.ref (gAd G 0), .int a1] σ Φ kl_X10_cell Θ := by
  refine XI.intro (by decide) (Nat.le_of_ble_eq_true rfl) hJ ?_
  intro p e s m args below meth c ls hE hT hx0 hml hr hlk hw hl
  have hl : lv_has ls 2 [(0, .ref (gAd G 0)), (1, .int a1)] := hl
  unfold wx_X10_cell at hq
  refine lv_aload_n hE.1 hE.2.1 dX10_cell_0 rfl (lv_at hl 0 rfl) ?_
  refine cgf_X10_89 hE hw dX10_cell_1 ?_
  refine lv_if_eq (tgt := 14) hE.1 hE.2.1 dX10_cell_4 (by decide) (fun c1 => ?_) (fun c1 => ?_)
  · have hq := hq.1 c1
    exact thrN (k := 1) (is := 151) (text := "there is no such cell") hE hT hst hx0 hw wk_NSE (List.mem_of_getElem? (i := 8) rfl) (by decide) rx_NSE (by decide) hq hml hl.1 dX10_cell_14 dX10_cell_17 dX10_cell_18 dX10_cell_20 dX10_cell_23 (by decide) hlk
  · have hq := hq.2 c1
    refine lv_iload_n hE.1 hE.2.1 dX10_cell_7 rfl (lv_at hl 1 rfl) ?_
    refine clSi (rest := []) (As := [.int a1]) hE hml hl.1 hw (c_X10_isCell hE.2.2.2.2.2 l _ _ _ hq) cu46 cu388 cu48 cu47 (k := 1) (by decide +kernel) (by decide) rfl rfl (Nat.le_of_ble_eq_true rfl) dX10_cell_8 (by decide) (fun r2 σ1 hq H locs hw => ?_)
    refine lv_if_ne (tgt := 24) hE.1 hE.2.1 dX10_cell_11 (by decide) (fun c3 => ?_) (fun c3 => ?_)
    · have hq := hq.2 c3
      refine lv_aload_n hE.1 hE.2.1 dX10_cell_24 rfl (lv_at hl 0 rfl) ?_
      refine cgf_X10_51 hE hw dX10_cell_25 ?_
      refine cgf_X10_153 hE hw dX10_cell_28 ?_
      refine lv_iload_n hE.1 hE.2.1 dX10_cell_31 rfl (lv_at hl 1 rfl) ?_
      obtain ⟨hi4, hq⟩ := hq
      refine cal_33 hE hw hi4 dX10_cell_32 ?_
      exact rtIX hE hr hlk hw hq dX10_cell_33
    · have hq := hq.1 c3
      exact thrN (k := 1) (is := 151) (text := "there is no such cell") hE hT hst hx0 hw wk_NSE (List.mem_of_getElem? (i := 8) rfl) (by decide) rx_NSE (by decide) hq hml hl.1 dX10_cell_14 dX10_cell_17 dX10_cell_18 dX10_cell_20 dX10_cell_23 (by decide) hlk
/-! QueueBench.terms(I)I -/
abbrev rm_X10_terms : Room := { frames := 6, cells := 1, slots := 6, locals := 95 }
abbrev kl_X10_terms : List (String × Int32) := [("java/util/NoSuchElementException", 1)]
def wx_X10_terms (a1 : Int32) (σ : S9) (Φ : Int32 → S9 → Prop) (Θ : Int32 → S9 → Prop) : Prop := ((σ.1 0) = 0 → ∀ x2 : Int32, x2 = (-1 : Int32) → (x2 = (-1 : Int32) → Θ (1 : Int32) σ) ∧ (¬ x2 = (-1 : Int32) → wp_X7_differentTerms x2 σ (fun r4 σ1 => Φ r4 σ1))) ∧ (¬ (σ.1 0) = 0 → wp_X6_stepAt a1 σ (fun r5 σ2 => (r5 = (-1 : Int32) → Θ (1 : Int32) σ2) ∧ (¬ r5 = (-1 : Int32) → wp_X7_differentTerms r5 σ2 (fun r7 σ3 => Φ r7 σ3))))
theorem dX10_terms_0 : decode cX10_terms 0 = .ok (.aload_n 0, 1) := by decide +kernel
theorem dX10_terms_1 : decode cX10_terms 1 = .ok (.getfield 85, 3) := by decide +kernel
theorem dX10_terms_4 : decode cX10_terms 4 = .ok (.ifCond .eq 14, 3) := by decide +kernel
theorem dX10_terms_7 : decode cX10_terms 7 = .ok (.aload_n 0, 1) := by decide +kernel
theorem dX10_terms_8 : decode cX10_terms 8 = .ok (.getfield 26, 3) := by decide +kernel
theorem dX10_terms_11 : decode cX10_terms 11 = .ok (.iload_n 1, 1) := by decide +kernel
theorem dX10_terms_12 : decode cX10_terms 12 = .ok (.invokevirtual 156, 3) := by decide +kernel
theorem dX10_terms_15 : decode cX10_terms 15 = .ok (.goto 4, 3) := by decide +kernel
theorem dX10_terms_18 : decode cX10_terms 18 = .ok (.iconst (-1), 1) := by decide +kernel
theorem dX10_terms_19 : decode cX10_terms 19 = .ok (.istore_n 2, 1) := by decide +kernel
theorem dX10_terms_20 : decode cX10_terms 20 = .ok (.iload_n 2, 1) := by decide +kernel
theorem dX10_terms_21 : decode cX10_terms 21 = .ok (.iconst (-1), 1) := by decide +kernel
theorem dX10_terms_22 : decode cX10_terms 22 = .ok (.if_icmp .ne 13, 3) := by decide +kernel
theorem dX10_terms_25 : decode cX10_terms 25 = .ok (.new 134, 3) := by decide +kernel
theorem dX10_terms_28 : decode cX10_terms 28 = .ok (.dup, 1) := by decide +kernel
theorem dX10_terms_29 : decode cX10_terms 29 = .ok (.ldc 159, 2) := by decide +kernel
theorem dX10_terms_31 : decode cX10_terms 31 = .ok (.invokespecial 138, 3) := by decide +kernel
theorem dX10_terms_34 : decode cX10_terms 34 = .ok (.athrow, 1) := by decide +kernel
theorem dX10_terms_35 : decode cX10_terms 35 = .ok (.aload_n 0, 1) := by decide +kernel
theorem dX10_terms_36 : decode cX10_terms 36 = .ok (.getfield 58, 3) := by decide +kernel
theorem dX10_terms_39 : decode cX10_terms 39 = .ok (.aload_n 0, 1) := by decide +kernel
theorem dX10_terms_40 : decode cX10_terms 40 = .ok (.getfield 26, 3) := by decide +kernel
theorem dX10_terms_43 : decode cX10_terms 43 = .ok (.iload_n 2, 1) := by decide +kernel
theorem dX10_terms_44 : decode cX10_terms 44 = .ok (.invokevirtual 161, 3) := by decide +kernel
theorem dX10_terms_47 : decode cX10_terms 47 = .ok (.ireturn, 1) := by decide +kernel
set_option maxRecDepth 20000 in
set_option maxHeartbeats 4000000 in
theorem x_X10_terms {G : GG} (hJ : gJ 40 G) (l : Launch) (hst : l.stackTraces = false) (a1 : Int32) (σ : S9) (Φ : Int32 → S9 → Prop) (Θ : Int32 → S9 → Prop) (hq : wx_X10_terms a1 σ Φ Θ) : XI cwl 40 G l yX10_terms cX10_terms 3 (some .int) rm_X10_terms [.ref (gAd G 0), .int a1] σ Φ kl_X10_terms Θ := by
  refine XI.intro (by decide) (Nat.le_of_ble_eq_true rfl) hJ ?_
  intro p e s m args below meth c ls hE hT hx0 hml hr hlk hw hl
  have hl : lv_has ls 3 [(0, .ref (gAd G 0)), (1, .int a1)] := hl
  unfold wx_X10_terms at hq
  refine lv_aload_n hE.1 hE.2.1 dX10_terms_0 rfl (lv_at hl 0 rfl) ?_
  refine cgf_X10_85 hE hw dX10_terms_1 ?_
  refine lv_if_eq (tgt := 18) hE.1 hE.2.1 dX10_terms_4 (by decide) (fun c1 => ?_) (fun c1 => ?_)
  · have hq := hq.1 c1
    refine lv_iconst (v := (-1 : Int32)) hE.1 hE.2.1 dX10_terms_18 (by decide) ?_
    refine lv_topi (fun x2 ex2 => ?_)
    have hq := hq x2 ex2
    refine lv_istore_n (lv' := [(2, .int x2), (0, .ref (gAd G 0)), (1, .int a1)]) hE.1 hE.2.1 dX10_terms_19 rfl hl (by decide) rfl (fun ls hl => ?_)
    refine lv_iload_n hE.1 hE.2.1 dX10_terms_20 rfl (lv_at hl 0 rfl) ?_
    refine lv_iconst (v := (-1 : Int32)) hE.1 hE.2.1 dX10_terms_21 (by decide) ?_
    refine lv_icmp_ne (tgt := 35) hE.1 hE.2.1 dX10_terms_22 (by decide) (fun c3 => ?_) (fun c3 => ?_)
    · have hq := hq.2 c3
      refine lv_aload_n hE.1 hE.2.1 dX10_terms_35 rfl (lv_at hl 1 rfl) ?_
      refine cgf_X10_58 hE hw dX10_terms_36 ?_
      refine lv_aload_n hE.1 hE.2.1 dX10_terms_39 rfl (lv_at hl 1 rfl) ?_
      refine cgf_X10_26 hE hw dX10_terms_40 ?_
      refine lv_iload_n hE.1 hE.2.1 dX10_terms_43 rfl (lv_at hl 0 rfl) ?_
      refine clVi (rest := []) (As := [.ref (gAd G 3), .int x2]) hE hml hl.1 hw (c_X7_differentTerms hE.2.2.2.2.2 l _ _ _ hq) cu391 cu392 cu393 cu394 cu110 rfl (k := 2) (by decide +kernel) (by decide) (ci := 7) rfl (q0 := 10) rfl rfl rfl (Nat.le_of_ble_eq_true rfl) dX10_terms_44 (by decide) (fun r4 σ1 hq H locs hw => ?_)
      exact rtIX hE hr hlk hw hq dX10_terms_47
    · have hq := hq.1 c3
      exact thrN (k := 1) (is := 159) (text := "no step begins there") hE hT hst hx0 hw wk_NSE (List.mem_of_getElem? (i := 9) rfl) (by decide) rx_NSE (by decide) hq hml hl.1 dX10_terms_25 dX10_terms_28 dX10_terms_29 dX10_terms_31 dX10_terms_34 (by decide) hlk
  · have hq := hq.2 c1
    refine lv_aload_n hE.1 hE.2.1 dX10_terms_7 rfl (lv_at hl 0 rfl) ?_
    refine cgf_X10_26 hE hw dX10_terms_8 ?_
    refine lv_iload_n hE.1 hE.2.1 dX10_terms_11 rfl (lv_at hl 1 rfl) ?_
    refine clVi (rest := []) (As := [.int a1]) hE hml hl.1 hw (c_X6_stepAt hE.2.2.2.2.2 l _ _ _ hq) cu395 cu396 cu397 cu398 cu25 rfl (k := 1) (by decide +kernel) (by decide) (ci := 6) rfl (q0 := 3) rfl rfl rfl (Nat.le_of_ble_eq_true rfl) dX10_terms_12 (by decide) (fun r5 σ2 hq H locs hw => ?_)
    refine lv_goto (tgt := 19) hE.1 hE.2.1 dX10_terms_15 (by decide) ?_
    refine lv_istore_n (lv' := [(2, .int r5), (0, .ref (gAd G 0)), (1, .int a1)]) hE.1 hE.2.1 dX10_terms_19 rfl hl (by decide) rfl (fun ls hl => ?_)
    refine lv_iload_n hE.1 hE.2.1 dX10_terms_20 rfl (lv_at hl 0 rfl) ?_
    refine lv_iconst (v := (-1 : Int32)) hE.1 hE.2.1 dX10_terms_21 (by decide) ?_
    refine lv_icmp_ne (tgt := 35) hE.1 hE.2.1 dX10_terms_22 (by decide) (fun c6 => ?_) (fun c6 => ?_)
    · have hq := hq.2 c6
      refine lv_aload_n hE.1 hE.2.1 dX10_terms_35 rfl (lv_at hl 1 rfl) ?_
      refine cgf_X10_58 hE hw dX10_terms_36 ?_
      refine lv_aload_n hE.1 hE.2.1 dX10_terms_39 rfl (lv_at hl 1 rfl) ?_
      refine cgf_X10_26 hE hw dX10_terms_40 ?_
      refine lv_iload_n hE.1 hE.2.1 dX10_terms_43 rfl (lv_at hl 0 rfl) ?_
      refine clVi (rest := []) (As := [.ref (gAd G 3), .int r5]) hE hml hl.1 hw (c_X7_differentTerms hE.2.2.2.2.2 l _ _ _ hq) cu391 cu392 cu393 cu394 cu110 rfl (k := 2) (by decide +kernel) (by decide) (ci := 7) rfl (q0 := 10) rfl rfl rfl (Nat.le_of_ble_eq_true rfl) dX10_terms_44 (by decide) (fun r7 σ3 hq H locs hw => ?_)
      exact rtIX hE hr hlk hw hq dX10_terms_47
    · have hq := hq.1 c6
      exact thrN (k := 1) (is := 159) (text := "no step begins there") hE hT hst hx0 hw wk_NSE (List.mem_of_getElem? (i := 9) rfl) (by decide) rx_NSE (by decide) hq hml hl.1 dX10_terms_25 dX10_terms_28 dX10_terms_29 dX10_terms_31 dX10_terms_34 (by decide) hlk
/-! QueueBench.count(I)I -/
abbrev rm_X10_count : Room := { frames := 6, cells := 1, slots := 6, locals := 90 }
abbrev kl_X10_count : List (String × Int32) := [("java/lang/IllegalArgumentException", 1)]
def wx_X10_count (a1 : Int32) (σ : S9) (Φ : Int32 → S9 → Prop) (Θ : Int32 → S9 → Prop) : Prop := (a1 = (0 : Int32) → Φ (σ.1 2) σ) ∧ (¬ a1 = (0 : Int32) → (a1 = (1 : Int32) → ((σ.1 0) = 0 → Φ (0 : Int32) σ) ∧ (¬ (σ.1 0) = 0 → Φ (σ.1 4) σ)) ∧ (¬ a1 = (1 : Int32) → (a1 = (2 : Int32) → ((σ.1 0) = 0 → Φ (0 : Int32) σ) ∧ (¬ (σ.1 0) = 0 → Φ (σ.1 5) σ)) ∧ (¬ a1 = (2 : Int32) → (a1 = (3 : Int32) → Φ (σ.1 3) σ) ∧ (¬ a1 = (3 : Int32) → Θ (1 : Int32) σ))))
theorem dX10_count_0 : decode cX10_count 0 = .ok (.iload_n 1, 1) := by decide +kernel
theorem dX10_count_1 : decode cX10_count 1 = .ok (.tableswitch 85 0 3 #[31, 39, 58, 77], 31) := by decide +kernel
theorem dX10_count_32 : decode cX10_count 32 = .ok (.aload_n 0, 1) := by decide +kernel
theorem dX10_count_33 : decode cX10_count 33 = .ok (.getfield 12, 3) := by decide +kernel
theorem dX10_count_36 : decode cX10_count 36 = .ok (.getfield 66, 3) := by decide +kernel
theorem dX10_count_39 : decode cX10_count 39 = .ok (.ireturn, 1) := by decide +kernel
theorem dX10_count_40 : decode cX10_count 40 = .ok (.aload_n 0, 1) := by decide +kernel
theorem dX10_count_41 : decode cX10_count 41 = .ok (.getfield 85, 3) := by decide +kernel
theorem dX10_count_44 : decode cX10_count 44 = .ok (.ifCond .eq 13, 3) := by decide +kernel
theorem dX10_count_47 : decode cX10_count 47 = .ok (.aload_n 0, 1) := by decide +kernel
theorem dX10_count_48 : decode cX10_count 48 = .ok (.getfield 26, 3) := by decide +kernel
theorem dX10_count_51 : decode cX10_count 51 = .ok (.getfield 165, 3) := by decide +kernel
theorem dX10_count_54 : decode cX10_count 54 = .ok (.goto 4, 3) := by decide +kernel
theorem dX10_count_57 : decode cX10_count 57 = .ok (.iconst 0, 1) := by decide +kernel
theorem dX10_count_58 : decode cX10_count 58 = .ok (.ireturn, 1) := by decide +kernel
theorem dX10_count_59 : decode cX10_count 59 = .ok (.aload_n 0, 1) := by decide +kernel
theorem dX10_count_60 : decode cX10_count 60 = .ok (.getfield 85, 3) := by decide +kernel
theorem dX10_count_63 : decode cX10_count 63 = .ok (.ifCond .eq 13, 3) := by decide +kernel
theorem dX10_count_66 : decode cX10_count 66 = .ok (.aload_n 0, 1) := by decide +kernel
theorem dX10_count_67 : decode cX10_count 67 = .ok (.getfield 26, 3) := by decide +kernel
theorem dX10_count_70 : decode cX10_count 70 = .ok (.getfield 168, 3) := by decide +kernel
theorem dX10_count_73 : decode cX10_count 73 = .ok (.goto 4, 3) := by decide +kernel
theorem dX10_count_76 : decode cX10_count 76 = .ok (.iconst 0, 1) := by decide +kernel
theorem dX10_count_77 : decode cX10_count 77 = .ok (.ireturn, 1) := by decide +kernel
theorem dX10_count_78 : decode cX10_count 78 = .ok (.aload_n 0, 1) := by decide +kernel
theorem dX10_count_79 : decode cX10_count 79 = .ok (.getfield 19, 3) := by decide +kernel
theorem dX10_count_82 : decode cX10_count 82 = .ok (.getfield 92, 3) := by decide +kernel
theorem dX10_count_85 : decode cX10_count 85 = .ok (.ireturn, 1) := by decide +kernel
theorem dX10_count_86 : decode cX10_count 86 = .ok (.new 103, 3) := by decide +kernel
theorem dX10_count_89 : decode cX10_count 89 = .ok (.dup, 1) := by decide +kernel
theorem dX10_count_90 : decode cX10_count 90 = .ok (.ldc 171, 2) := by decide +kernel
theorem dX10_count_92 : decode cX10_count 92 = .ok (.invokespecial 107, 3) := by decide +kernel
theorem dX10_count_95 : decode cX10_count 95 = .ok (.athrow, 1) := by decide +kernel
set_option maxRecDepth 20000 in
set_option maxHeartbeats 4000000 in
theorem x_X10_count {G : GG} (hJ : gJ 40 G) (l : Launch) (hst : l.stackTraces = false) (a1 : Int32) (σ : S9) (Φ : Int32 → S9 → Prop) (Θ : Int32 → S9 → Prop) (hq : wx_X10_count a1 σ Φ Θ) : XI cwl 40 G l yX10_count cX10_count 2 (some .int) rm_X10_count [.ref (gAd G 0), .int a1] σ Φ kl_X10_count Θ := by
  refine XI.intro (by decide) (Nat.le_of_ble_eq_true rfl) hJ ?_
  intro p e s m args below meth c ls hE hT hx0 hml hr hlk hw hl
  have hl : lv_has ls 2 [(0, .ref (gAd G 0)), (1, .int a1)] := hl
  unfold wx_X10_count at hq
  refine lv_iload_n hE.1 hE.2.1 dX10_count_0 rfl (lv_at hl 1 rfl) ?_
  by_cases c1 : a1 = (0 : Int32)
  · have hq := hq.1 c1
    refine lv_tableH (off := 31) (tgt := 32) hE.1 hE.2.1 dX10_count_1 c1 (by decide) (by decide) (by decide) (by decide) ?_
    refine lv_aload_n hE.1 hE.2.1 dX10_count_32 rfl (lv_at hl 0 rfl) ?_
    refine cgf_X10_12 hE hw dX10_count_33 ?_
    refine cgf_X10_66 hE hw dX10_count_36 ?_
    exact rtIX hE hr hlk hw hq dX10_count_39
  · have hq := hq.2 c1
    by_cases c2 : a1 = (1 : Int32)
    · have hq := hq.1 c2
      refine lv_tableH (off := 39) (tgt := 40) hE.1 hE.2.1 dX10_count_1 c2 (by decide) (by decide) (by decide) (by decide) ?_
      refine lv_aload_n hE.1 hE.2.1 dX10_count_40 rfl (lv_at hl 0 rfl) ?_
      refine cgf_X10_85 hE hw dX10_count_41 ?_
      refine lv_if_eq (tgt := 57) hE.1 hE.2.1 dX10_count_44 (by decide) (fun c3 => ?_) (fun c3 => ?_)
      · have hq := hq.1 c3
        refine lv_iconst (v := (0 : Int32)) hE.1 hE.2.1 dX10_count_57 (by decide) ?_
        exact rtIX hE hr hlk hw hq dX10_count_58
      · have hq := hq.2 c3
        refine lv_aload_n hE.1 hE.2.1 dX10_count_47 rfl (lv_at hl 0 rfl) ?_
        refine cgf_X10_26 hE hw dX10_count_48 ?_
        refine cgf_X10_165 hE hw dX10_count_51 ?_
        refine lv_goto (tgt := 58) hE.1 hE.2.1 dX10_count_54 (by decide) ?_
        exact rtIX hE hr hlk hw hq dX10_count_58
    · have hq := hq.2 c2
      by_cases c4 : a1 = (2 : Int32)
      · have hq := hq.1 c4
        refine lv_tableH (off := 58) (tgt := 59) hE.1 hE.2.1 dX10_count_1 c4 (by decide) (by decide) (by decide) (by decide) ?_
        refine lv_aload_n hE.1 hE.2.1 dX10_count_59 rfl (lv_at hl 0 rfl) ?_
        refine cgf_X10_85 hE hw dX10_count_60 ?_
        refine lv_if_eq (tgt := 76) hE.1 hE.2.1 dX10_count_63 (by decide) (fun c5 => ?_) (fun c5 => ?_)
        · have hq := hq.1 c5
          refine lv_iconst (v := (0 : Int32)) hE.1 hE.2.1 dX10_count_76 (by decide) ?_
          exact rtIX hE hr hlk hw hq dX10_count_77
        · have hq := hq.2 c5
          refine lv_aload_n hE.1 hE.2.1 dX10_count_66 rfl (lv_at hl 0 rfl) ?_
          refine cgf_X10_26 hE hw dX10_count_67 ?_
          refine cgf_X10_168 hE hw dX10_count_70 ?_
          refine lv_goto (tgt := 77) hE.1 hE.2.1 dX10_count_73 (by decide) ?_
          exact rtIX hE hr hlk hw hq dX10_count_77
      · have hq := hq.2 c4
        by_cases c6 : a1 = (3 : Int32)
        · have hq := hq.1 c6
          refine lv_tableH (off := 77) (tgt := 78) hE.1 hE.2.1 dX10_count_1 c6 (by decide) (by decide) (by decide) (by decide) ?_
          refine lv_aload_n hE.1 hE.2.1 dX10_count_78 rfl (lv_at hl 0 rfl) ?_
          refine cgf_X10_19 hE hw dX10_count_79 ?_
          refine cgf_X10_92 hE hw dX10_count_82 ?_
          exact rtIX hE hr hlk hw hq dX10_count_85
        · have hq := hq.2 c6
          refine lv_tableD (ks := [0, 1, 2, 3]) (tgt := 86) hE.1 hE.2.1 dX10_count_1 (by simp only [List.forall_mem_cons, List.not_mem_nil, false_implies, implies_true, and_true]; exact ⟨c1, c2, c4, c6⟩) (by decide) (by decide) (by decide) ?_
          exact thr (k := 1) (is := 171) (text := "there is no such count") hE hT hst hx0 hw wk_IAE (List.mem_of_getElem? (i := 10) rfl) (by decide) (by decide) (by decide) hq hml hl.1 dX10_count_86 dX10_count_89 dX10_count_90 dX10_count_92 dX10_count_95 (by decide) hlk
