/-! ===== what is known at the law's entry ===== -/
theorem su0 : Cond.instantiable "QueueBench$Compiler" 11 ∈ UW := inUW 191 (by decide +kernel) rfl
theorem su1 : Cond.instantiable "QueueBench$Expression" 8 ∈ UW := inUW 223 (by decide +kernel) rfl
theorem su2 : Cond.instantiable "QueueBench$Input" 2 ∈ UW := inUW 106 (by decide +kernel) rfl
theorem su3 : Cond.instantiable "QueueBench$Machine" 13 ∈ UW := inUW 303 (by decide +kernel) rfl
theorem su4 : Cond.instantiable "QueueBench$Operands" 2 ∈ UW := inUW 309 (by decide +kernel) rfl
theorem su5 : Cond.instantiable "QueueBench$Outputs" 2 ∈ UW := inUW 288 (by decide +kernel) rfl
theorem su6 : Cond.instantiable "QueueBench$Program" 13 ∈ UW := inUW 123 (by decide +kernel) rfl
theorem su7 : Cond.instantiable "QueueBench$TermTable" 5 ∈ UW := inUW 369 (by decide +kernel) rfl
theorem su8 : Cond.instantiable "QueueBench$Text" 2 ∈ UW := inUW 90 (by decide +kernel) rfl
theorem su9 : Cond.instantiable "QueueBench$Words" 5 ∈ UW := inUW 197 (by decide +kernel) rfl
theorem su10 : Cond.instantiable "QueueBench" 9 ∈ UW := inUW 82 (by decide +kernel) rfl
theorem su11 : Cond.instantiable "QueueBenchModel" 52 ∈ UW := inUW 930 (by decide +kernel) rfl
theorem su12 : Cond.arrayClass .int ∈ UW := inUW 121 (by decide +kernel) rfl
theorem su13 : Cond.arrayClass .char ∈ UW := inUW 104 (by decide +kernel) rfl
theorem su14 : Cond.arrayClass .boolean ∈ UW := inUW 221 (by decide +kernel) rfl
theorem su15 : Cond.code yX10_init cX10_init 1 none ∈ UW := inUW 85 (by decide +kernel) rfl
theorem su16 : Cond.instanceMethod yX10_init ∈ UW := inUW 84 (by decide +kernel) rfl
theorem su17 : Cond.code yX11_init cX11_init 1 none ∈ UW := inUW 933 (by decide +kernel) rfl
theorem su18 : Cond.instanceMethod yX11_init ∈ UW := inUW 932 (by decide +kernel) rfl
theorem su19 : Cond.classLink "QueueBenchLaw" 8 "QueueBench" ∈ UW := inUW 81 (by decide +kernel) rfl
theorem su20 : Cond.initialized RX10 ∈ UW := inUW 62 (by decide +kernel) rfl
theorem su21 : Cond.methodLink RL 47 yX10_init ∈ UW := inUW 83 (by decide +kernel) rfl
theorem su22 : Cond.classLink "QueueBenchLaw" 48 "QueueBenchModel" ∈ UW := inUW 929 (by decide +kernel) rfl
theorem su23 : Cond.initialized RX11 ∈ UW := inUW 73 (by decide +kernel) rfl
theorem su24 : Cond.methodLink RL 50 yX11_init ∈ UW := inUW 931 (by decide +kernel) rfl
theorem su25 : Cond.arrayClass .long ∈ UW := inUW 1243 (by decide +kernel) rfl
theorem arr_of {s : State} {args : Array Value} {ty : FieldType} (h : (Cond.arrayClass ty).before args s = true) (hno : ∀ s cA, va_RA s cA ty = (s.vm.findClass ("[" ++ ty.toString) = some cA)) : ∃ cA : ClassId, ArrOfT s cA ty ∧ va_RA s cA ty := by
  obtain ⟨cA, k, comp, h1, h2, h3⟩ := Cond.arrayClass_spec h
  exact ⟨cA, fun n z => ⟨fun k h => (by cases h), k, h2, comp, h3⟩, by rw [hno]; exact h1⟩
theorem st_D {s : State} {args : Array Value} (hU : ∀ w ∈ UW, w.before args s = true) : ∃ D : va_G, ∀ (k : Nat) (q : vw_C), vwCl[k]? = some q → u_Kn s q.1 q.2.1 q.2.2 (D.1 k) (D.2 k) := by
  obtain ⟨c0, i0, h0⟩ := u_known (C := RX0) (T := TX0) (N := 11) (n := 11) hU iuX0 (hU _ su0)
  obtain ⟨c1, i1, h1⟩ := u_known (C := RX1) (T := TX1) (N := 8) (n := 8) hU iuX1 (hU _ su1)
  obtain ⟨c2, i2, h2⟩ := u_known (C := RX2) (T := TX2) (N := 2) (n := 2) hU iuX2 (hU _ su2)
  obtain ⟨c3, i3, h3⟩ := u_known (C := RX3) (T := TX3) (N := 13) (n := 13) hU iuX3 (hU _ su3)
  obtain ⟨c4, i4, h4⟩ := u_known (C := RX4) (T := TX4) (N := 2) (n := 2) hU iuX4 (hU _ su4)
  obtain ⟨c5, i5, h5⟩ := u_known (C := RX5) (T := TX5) (N := 2) (n := 2) hU iuX5 (hU _ su5)
  obtain ⟨c6, i6, h6⟩ := u_known (C := RX6) (T := TX6) (N := 13) (n := 13) hU iuX6 (hU _ su6)
  obtain ⟨c7, i7, h7⟩ := u_known (C := RX7) (T := TX7) (N := 5) (n := 5) hU iuX7 (hU _ su7)
  obtain ⟨c8, i8, h8⟩ := u_known (C := RX8) (T := TX8) (N := 2) (n := 2) hU iuX8 (hU _ su8)
  obtain ⟨c9, i9, h9⟩ := u_known (C := RX9) (T := TX9) (N := 5) (n := 5) hU iuX9 (hU _ su9)
  obtain ⟨c10, i10, h10⟩ := u_known (C := RX10) (T := TX10) (N := 9) (n := 9) hU iuX10 (hU _ su10)
  obtain ⟨c11, i11, h11⟩ := u_known (C := RX11) (T := TX11) (N := 52) (n := 52) hU iuX11 (hU _ su11)
  refine ⟨(fun k => ([c0, c1, c2, c3, c4, c5, c6, c7, c8, c9, c10, c11] : List ClassId).getD k c0, fun k => ([i0, i1, i2, i3, i4, i5, i6, i7, i8, i9, i10, i11] : List (Nat → Nat)).getD k i0), ?_⟩
  intro k q hq
  match k, hq with
  | 0, hq => cases hq; exact h0
  | 1, hq => cases hq; exact h1
  | 2, hq => cases hq; exact h2
  | 3, hq => cases hq; exact h3
  | 4, hq => cases hq; exact h4
  | 5, hq => cases hq; exact h5
  | 6, hq => cases hq; exact h6
  | 7, hq => cases hq; exact h7
  | 8, hq => cases hq; exact h8
  | 9, hq => cases hq; exact h9
  | 10, hq => cases hq; exact h10
  | 11, hq => cases hq; exact h11
  | k + 12, hq => exact absurd hq (by simp)
theorem nest_in : ∀ w ∈ nestW, w ∈ lw_tbl := by
  intro w hw
  rw [show nestW = ([91, 97, 98, 107, 112, 114, 115, 124, 129, 130, 132, 134, 137, 138, 140, 141, 143, 144, 146, 147, 149, 150, 152, 153, 155, 156, 158, 159, 161, 162, 203, 206, 209, 289, 295, 296, 310, 315, 317, 318, 328, 330, 337, 339, 370, 375, 463, 488, 523, 567, 791] : List Nat).filterMap (fun i => lw_tbl[i]?) from by decide +kernel] at hw
  obtain ⟨i, -, hi⟩ := List.mem_filterMap.mp hw
  exact List.mem_of_getElem? hi
theorem nest_tab {w : Cond} (h : isNest w = true) : w.onTables = true := by cases w <;> first | rfl | cases h
theorem st_K {s : State} {args : Array Value} (hts : ∀ w ∈ lw_tbl, w.before args s = true) : ∃ (D : va_G) (cI cC cZ : ClassId), ∀ ad : Nat → Nat, gK (D, cI, cC, cZ, ad) s := by
  have hU : ∀ w ∈ UW, w.before args s = true := fun w hw => hts w (List.mem_filter.mp hw).1
  obtain ⟨D, hD⟩ := st_D hU
  obtain ⟨cI, hI⟩ := arr_of (hU _ su12) (fun _ _ => rfl)
  obtain ⟨cC, hCc⟩ := arr_of (hU _ su13) (fun _ _ => rfl)
  obtain ⟨cZ, hZ⟩ := arr_of (hU _ su14) (fun _ _ => rfl)
  refine ⟨D, cI, cC, cZ, fun ad => ⟨⟨hD, fun k q hq => ?_⟩, fun w hw => va_Nw.of (nest_tab (List.all_eq_true.mp nestAll w hw)) (hts w (nest_in w hw))⟩⟩
  match k, hq with
  | 0, hq => cases hq; exact hI
  | 1, hq => cases hq; exact hCc
  | 2, hq => cases hq; exact hZ
  | k + 3, hq => exact absurd hq (by simp)
theorem str_in : ∀ q ∈ strW, Cond.stringRef RX10 q.1 q.2 ∈ lw_tbl := by decide +kernel
theorem str_ex : ∀ q ∈ strW, Cond.exactly (.string RX10 q.1) "java/lang/String" ∈ flatC (Jvm.Cond.and given_1 narrow_1) := by decide +kernel
theorem st_T9 {p : Program} {s : State} {m : MethodId} {meth : Method} {c : Code} {b L : Nat} {xs : Nat → Int32} (C0 : lw_At p s m meth c b L xs) : T9 (LR s) s := by
  obtain ⟨hx, hb, hr, hml, hown, hts, hX, hbl, hlk, hgv⟩ := C0
  have hs := flat_of_before _ hgv
  have hA : ∀ a : Nat, a < s.heap.size → ¬ LR s a := fun a h => Nat.not_le.mpr h
  refine ⟨vx_Zqof (hts _ (List.mem_of_getElem? (i := 659) (by decide +kernel))) (hts _ (List.mem_of_getElem? (i := 74) (by decide +kernel))) (hs _ (by decide +kernel)) hA, vx_Zqof (hts _ (List.mem_of_getElem? (i := 661) (by decide +kernel))) (hts _ (List.mem_of_getElem? (i := 74) (by decide +kernel))) (hs _ (by decide +kernel)) hA, fun q hq => ?_, fun w hw => va_tabs (decl_tab (List.mem_filter.mp hw).2) rfl (hts w (List.mem_filter.mp hw).1), va_Nc.of (hs (Cond.not (.castable nISE nIAE)) (by decide +kernel))⟩
  obtain ⟨a, c9, cell, k9, h1, -⟩ := Cond.exactly_spec (hs _ (str_ex q hq))
  exact ⟨a, vk_R.of (hts _ (str_in q hq)) h1⟩
theorem at_of {ws : va_W} {n : Nat} {G : GG} (h : ws.map Prod.fst = (List.range n).map (gAd G)) {i : Nat} (hi : i < n) : ∃ e : va_E, ws[i]? = some (gAd G i, e) := by
  have h2 := congrArg (fun l => l[i]?) h
  simp only [List.getElem?_map] at h2
  rw [List.getElem?_range hi] at h2
  cases hq : ws[i]? with
  | none => rw [hq] at h2; cases h2
  | some q => rw [hq] at h2; exact ⟨q.2, by rw [← Option.some.inj h2]⟩
theorem AP_of {G Gm : GG} {cJ : ClassId} {o : Nat} {σ τ : S9} {f : Nat → Int64} {s : State} (hD : va_D (LR s) (cwl G σ ++ (mwl Gm τ ++ oW cJ o f))) : AP G Gm o s.heap.size := by
  have hc : ∀ i, i < 40 → ∃ e : va_E, (cwl G σ ++ (mwl Gm τ ++ oW cJ o f))[i]? = some (gAd G i, e) := fun i hi => by
    obtain ⟨e, he⟩ := at_of (ws := cwl G σ) (n := 40) (G := G) rfl hi
    exact ⟨e, by rw [List.getElem?_append_left (List.getElem?_eq_some_iff.mp he).1]; exact he⟩
  have hm : ∀ j, j < 27 → ∃ e : va_E, (cwl G σ ++ (mwl Gm τ ++ oW cJ o f))[40 + j]? = some (gAd Gm j, e) := fun j hj => by
    obtain ⟨e, he⟩ := at_of (ws := mwl Gm τ) (n := 27) (G := Gm) rfl hj
    refine ⟨e, ?_⟩
    rw [List.getElem?_append_right (show (cwl G σ).length ≤ 40 + j from Nat.le_add_right 40 j), show 40 + j - (cwl G σ).length = j from Nat.add_sub_cancel_left 40 j, List.getElem?_append_left (List.getElem?_eq_some_iff.mp he).1]; exact he
  have ho : (cwl G σ ++ (mwl Gm τ ++ oW cJ o f))[67]? = some (o, .inl (cJ, 1, .inr (.inl f))) := rfl
  refine ⟨⟨fun i j hi hj e => ?_, fun i j hi hj e => ?_⟩, ⟨fun i hi => ?_, fun j hj => ?_, ?_⟩, fun i j hi hj e => ?_, fun i hi e => ?_, fun j hj e => ?_⟩
  · obtain ⟨e1, h1⟩ := hc i hi; obtain ⟨e2, h2⟩ := hc j hj; exact hD.1 i j _ _ h1 h2 e
  · obtain ⟨e1, h1⟩ := hm i hi; obtain ⟨e2, h2⟩ := hm j hj; have := hD.1 _ _ _ _ h1 h2 e; omega
  · obtain ⟨e1, h1⟩ := hc i hi; exact hD.2 _ _ h1
  · obtain ⟨e1, h1⟩ := hm j hj; exact hD.2 _ _ h1
  · exact hD.2 _ _ ho
  · obtain ⟨e1, h1⟩ := hc i hi; obtain ⟨e2, h2⟩ := hm j hj; have := hD.1 _ _ _ _ h1 h2 e; omega
  · obtain ⟨e1, h1⟩ := hc i hi; have := hD.1 _ _ _ _ h1 ho e; omega
  · obtain ⟨e1, h1⟩ := hm j hj; have := hD.1 _ _ _ _ h1 ho e; omega
def z9 : S9 := (fun _ => 0, fun _ _ => 0, 0)
theorem RR_0 : RR z9 z9 (1000 * 0) := ⟨⟨0, rfl, rfl, rfl, ⟨by omega, fun i hi => absurd hi (by omega)⟩⟩, ⟨0, rfl⟩, 0, ⟨rfl, rfl, by omega, fun i hi => absurd hi (by omega)⟩, Or.inl ⟨rfl, rfl, rfl, rfl⟩⟩
theorem sPre {G : GG} {s : State} {H : Heap} {wr : va_W} {q : Nat} {e0 : va_E} {As : List Value} (hK : gK G s) (hP : va_P G.1 vwCl (wr ++ [(q, e0)]) H) : PreS s H (nPre G q e0 H.size As) (.ref q :: As) := by
  refine ⟨nPre.blind, fun U hU hW => ⟨rfl, by rw [hU], hK.warm hW, fun k x hk => ?_, ⟨fun i j a b hi hj _ => ?_, fun _ _ _ => trivial⟩⟩⟩
  · have h0 : k = 0 := by have := (List.getElem?_eq_some_iff.mp hk).1; simp at this; exact this
    subst h0
    have hx : (q, e0) = x := by simpa using hk
    rw [← hx, hU]
    exact hP wr.length _ (by rw [List.getElem?_append_right (Nat.le_refl _), Nat.sub_self]; rfl)
  · have h1 := (List.getElem?_eq_some_iff.mp hi).1
    have h2 := (List.getElem?_eq_some_iff.mp hj).1
    simp at h1 h2
    omega
