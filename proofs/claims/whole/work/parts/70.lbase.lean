/-! ===== the law's own frame: both worlds, the row of one long, and the calls from there ===== -/
def LR (s : State) : Nat → Prop := fun q => s.heap.size ≤ q
def LH (G Gm : GG) (cJ : ClassId) (o : Nat) (σ τ : S9) (f : Nat → Int64) (s : State) (H : Heap) (locs : List Loc) : Prop :=
  va_P G.1 vwCl (cwl G σ) H ∧ va_P Gm.1 vwCl (mwl Gm τ) H ∧ va_P G.1 vwCl (oW cJ o f) H ∧ va_S (LR s) s.heap H locs
def AP (G Gm : GG) (o n0 : Nat) : Prop := (gJ 40 G ∧ gJ 27 Gm) ∧ ((∀ i, i < 40 → n0 ≤ gAd G i) ∧ (∀ j, j < 27 → n0 ≤ gAd Gm j) ∧ n0 ≤ o) ∧ (∀ i j, i < 40 → j < 27 → gAd G i ≠ gAd Gm j) ∧ (∀ i, i < 40 → gAd G i ≠ o) ∧ ∀ j, j < 27 → gAd Gm j ≠ o
theorem AP.oOk {G Gm : GG} {o n0 : Nat} (h : AP G Gm o n0) : oOk G o := fun ⟨i, hi, e⟩ => h.2.2.2.1 i hi e.symm
theorem AP.c {G Gm : GG} {o n0 q : Nat} (h : AP G Gm o n0) (hq : gRg 40 G q) : n0 ≤ q := by obtain ⟨i, hi, rfl⟩ := hq; exact h.2.1.1 i hi
theorem AP.m {G Gm : GG} {o n0 q : Nat} (h : AP G Gm o n0) (hq : gRg 27 Gm q) : n0 ≤ q := by obtain ⟨i, hi, rfl⟩ := hq; exact h.2.1.2.1 i hi
theorem AP.cm {G Gm : GG} {o n0 q : Nat} (h : AP G Gm o n0) (hq : gRg 40 G q) : ¬ gRg 27 Gm q := by
  obtain ⟨i, hi, rfl⟩ := hq
  exact fun ⟨j, hj, e⟩ => h.2.2.1 i j hi hj e
theorem AP.mo {G Gm : GG} {o n0 : Nat} (h : AP G Gm o n0) : ¬ gRg 27 Gm o := fun ⟨j, hj, e⟩ => h.2.2.2.2 j hj e.symm
theorem AP.oC {G Gm : GG} {o n0 q : Nat} (h : AP G Gm o n0) (hq : oR G o q) : n0 ≤ q := by
  rcases hq with hq | hq
  · exact h.c hq
  · rw [hq]; exact h.2.1.2.2
/-- a world's cells stay where nothing of it was written -/
theorem keepW {D : va_G} {cl : List vw_C} {ws : va_W} {A B : Nat → Prop} {H H1 : Heap} (hP : va_P D cl ws H) (hD : ∀ (k : Nat) (q : Nat × va_E), ws[k]? = some q → B q.1) (hk : ∀ q : Nat, q < H.size → ¬ A q → H1[q]? = H[q]?) (hAB : ∀ q, B q → ¬ A q) : va_P D cl ws H1 :=
  hP.kept fun k q hq => hk q.1 (hP k q hq).lt (hAB _ (hD k q hq))
section LRows
variable {p : Program} {l : Launch} {e : Env} {R : Room} {s : State} {m : MethodId} {args : Array Value} {below : List Frame} {meth : Method} {c : Code} {H : Heap} {locs : List Loc} {cells slots : Nat} {Q : State → Prop} {cc : ByteArray} {pc : Nat} {ls : Array Slot} {rest : List Value} {G Gm : GG} {σ τ : S9} {cJ : ClassId} {o : Nat} {f : Nat → Int64}
variable {y : MethodName} {cb : ByteArray} {maxL nL k index : Nat} {ret : Option FieldType} {rm : Room} {As : List Value} {st0 : List Value}
theorem lcC {Φ : Int32 → S9 → Prop} (hE : Ev 40 G p s m args c cc RL) (hA : AP G Gm o s.heap.size) (hml : c.maxLocals = nL) (hsize : ls.size = nL) (hw : LH G Gm cJ o σ τ f s H locs) (hM : CI cwl 40 G l y cb maxL ret rm (.ref (gAd G 0) :: As) σ Φ)
    (hc : Cond.code y cb maxL ret ∈ UW) (hl : Cond.methodLink RL index y ∈ UW) (hi : Cond.instanceMethod y ∈ UW) (hs : Cond.selects RX10 y y ∈ UW) (hini : Cond.initialized RX10 ∈ UW) (hC : y.cls = RX10) (hy : yOk y k) (hR : rmOk rm R maxL)
    (hn : As.length = k) (hstk : st0 = As.reverse ++ .ref (gAd G 0) :: rest) (hrs : (rest.map fun v => v.category).sum ≤ 8) (hdg : decode cc pc = .ok (.invokevirtual index, 3)) (hcs : cells ≤ R.cells ∧ slots ≤ R.slots)
    (kk : ∀ (r : Int32) (σ1 : S9) (H1 : Heap) (locs1 : List Loc), Φ r σ1 → LH G Gm cJ o σ1 τ f s H1 locs1 → W p l e R s m args below meth c H1 locs1 cells slots Q (F0 m (pc + 3) ls (.int r :: rest))) : W p l e R s m args below meth c H locs cells slots Q (F0 m pc ls st0) := by
  obtain ⟨hx, hb, hown, hU, hK, hJ⟩ := hE
  obtain ⟨hP, hPm, hO, hS⟩ := hw
  have hrecv : ∃ cell, H[gAd G 0]? = some cell ∧ cell.vm.isStatics = false ∧ s.vm.findClass y.cls = some cell.cls := by rw [hC]; exact va_recv hK.1 hP (q0 := 0) (ci := 10) rfl rfl
  refine va_calli (va_runV (nL := nL) (As := As) (rest := rest) ⟨hx, hb, hml, hown, hU⟩ hM ⟨callB_of k hU (goodUW hc) rfl hR.1 hR.2.1 (by rw [hC]; exact hU _ hini) (hU _ hl) hy hR.2.2, hU _ hi, by rw [hC]; exact hU _ hs⟩ ⟨gPre.blind, hrecv, fun U hU1 hW => ⟨rfl, hK.warm hW, by rw [hU1]; exact hP⟩⟩ rfl hn hsize hstk (lv_room hrs) hdg hcs) hS (fun q _ h => hA.c h) (fun q h => hA.c h) (fun r σ1 t H1 locs1 ht hvm hp hB hz hk hS1 => ?_)
  exact kk r σ1 H1 locs1 hp ⟨by rw [← ht]; exact hB, keepW hPm (mwlD hA.1.2).2 hk (fun q h h' => hA.cm h' h), oW_kept hO hk hA.oOk, hS1⟩
theorem lcM {Φ : Int32 → S9 → Prop} (hE : Ev 27 Gm p s m args c cc RL) (hA : AP G Gm o s.heap.size) (hml : c.maxLocals = nL) (hsize : ls.size = nL) (hw : LH G Gm cJ o σ τ f s H locs) (hM : CI mwl 27 Gm l y cb maxL ret rm (.ref (gAd Gm 0) :: As) τ Φ)
    (hc : Cond.code y cb maxL ret ∈ UW) (hl : Cond.methodLink RL index y ∈ UW) (hi : Cond.instanceMethod y ∈ UW) (hs : Cond.selects RX11 y y ∈ UW) (hini : Cond.initialized RX11 ∈ UW) (hC : y.cls = RX11) (hy : yOk y k) (hR : rmOk rm R maxL)
    (hn : As.length = k) (hstk : st0 = As.reverse ++ .ref (gAd Gm 0) :: rest) (hrs : (rest.map fun v => v.category).sum ≤ 8) (hdg : decode cc pc = .ok (.invokevirtual index, 3)) (hcs : cells ≤ R.cells ∧ slots ≤ R.slots)
    (kk : ∀ (r : Int32) (τ1 : S9) (H1 : Heap) (locs1 : List Loc), Φ r τ1 → LH G Gm cJ o σ τ1 f s H1 locs1 → W p l e R s m args below meth c H1 locs1 cells slots Q (F0 m (pc + 3) ls (.int r :: rest))) : W p l e R s m args below meth c H locs cells slots Q (F0 m pc ls st0) := by
  obtain ⟨hx, hb, hown, hU, hK, hJ⟩ := hE
  obtain ⟨hP, hPm, hO, hS⟩ := hw
  have hrecv : ∃ cell, H[gAd Gm 0]? = some cell ∧ cell.vm.isStatics = false ∧ s.vm.findClass y.cls = some cell.cls := by rw [hC]; exact va_recv hK.1 hPm (q0 := 0) (ci := 11) rfl rfl
  refine va_calli (va_runV (nL := nL) (As := As) (rest := rest) ⟨hx, hb, hml, hown, hU⟩ hM ⟨callB_of k hU (goodUW hc) rfl hR.1 hR.2.1 (by rw [hC]; exact hU _ hini) (hU _ hl) hy hR.2.2, hU _ hi, by rw [hC]; exact hU _ hs⟩ ⟨gPre.blind, hrecv, fun U hU1 hW => ⟨rfl, hK.warm hW, by rw [hU1]; exact hPm⟩⟩ rfl hn hsize hstk (lv_room hrs) hdg hcs) hS (fun q _ h => hA.m h) (fun q h => hA.m h) (fun r τ1 t H1 locs1 ht hvm hp hB hz hk hS1 => ?_)
  exact kk r τ1 H1 locs1 hp ⟨keepW hP (cwlD hA.1.1).2 hk (fun q h => hA.cm h), by rw [← ht]; exact hB, keepW (B := fun q => q = o) hO oW_in hk (fun q h => by rw [h]; exact hA.mo), hS1⟩
theorem lcMv {Φ : S9 → Prop} (hE : Ev 27 Gm p s m args c cc RL) (hA : AP G Gm o s.heap.size) (hml : c.maxLocals = nL) (hsize : ls.size = nL) (hw : LH G Gm cJ o σ τ f s H locs) (hM : CV mwl 27 Gm l y cb maxL rm (.ref (gAd Gm 0) :: As) τ Φ)
    (hc : Cond.code y cb maxL none ∈ UW) (hl : Cond.methodLink RL index y ∈ UW) (hi : Cond.instanceMethod y ∈ UW) (hs : Cond.selects RX11 y y ∈ UW) (hini : Cond.initialized RX11 ∈ UW) (hC : y.cls = RX11) (hy : yOk y k) (hR : rmOk rm R maxL)
    (hn : As.length = k) (hstk : st0 = As.reverse ++ .ref (gAd Gm 0) :: rest) (hrs : (rest.map fun v => v.category).sum ≤ 8) (hdg : decode cc pc = .ok (.invokevirtual index, 3)) (hcs : cells ≤ R.cells ∧ slots ≤ R.slots)
    (kk : ∀ (τ1 : S9) (H1 : Heap) (locs1 : List Loc), Φ τ1 → LH G Gm cJ o σ τ1 f s H1 locs1 → W p l e R s m args below meth c H1 locs1 cells slots Q (F0 m (pc + 3) ls rest)) : W p l e R s m args below meth c H locs cells slots Q (F0 m pc ls st0) := by
  obtain ⟨hx, hb, hown, hU, hK, hJ⟩ := hE
  obtain ⟨hP, hPm, hO, hS⟩ := hw
  have hrecv : ∃ cell, H[gAd Gm 0]? = some cell ∧ cell.vm.isStatics = false ∧ s.vm.findClass y.cls = some cell.cls := by rw [hC]; exact va_recv hK.1 hPm (q0 := 0) (ci := 11) rfl rfl
  refine va_callv (va_runV (nL := nL) (As := As) (rest := rest) ⟨hx, hb, hml, hown, hU⟩ hM ⟨callB_of k hU (goodUW hc) rfl hR.1 hR.2.1 (by rw [hC]; exact hU _ hini) (hU _ hl) hy hR.2.2, hU _ hi, by rw [hC]; exact hU _ hs⟩ ⟨gPre.blind, hrecv, fun U hU1 hW => ⟨rfl, hK.warm hW, by rw [hU1]; exact hPm⟩⟩ rfl hn hsize hstk (lv_room hrs) hdg hcs) hS (fun q _ h => hA.m h) (fun q h => hA.m h) (fun τ1 t H1 locs1 ht hvm hp hB hz hk hS1 => ?_)
  exact kk τ1 H1 locs1 hp ⟨keepW hP (cwlD hA.1.1).2 hk (fun q h => hA.cm h), by rw [← ht]; exact hB, keepW (B := fun q => q = o) hO oW_in hk (fun q h => by rw [h]; exact hA.mo), hS1⟩
theorem lcW {hh : List (Nat × Nat × Nat × Nat)} {Ψ : Int32 → S9 → (Nat → Int64) → Prop} (hE : Ev 40 G p s m args c cc RL) (hT : T9 (LR s) s) (hKJ : va_K G.1 vwCl [(cJ, .long)] s) (hA : AP G Gm o s.heap.size) (hml : c.maxLocals = nL) (hsize : ls.size = nL) (hw : LH G Gm cJ o σ τ f s H locs) (hM : WC G l cJ o y cb maxL hh rm As σ f Ψ)
    (hc : Cond.codeWith y cb maxL (some .int) hh ∈ UW) (hl : Cond.methodLink RL index y ∈ UW) (hst : Cond.static y ∈ UW) (hini : Cond.initialized y.cls ∈ UW) (hy : yOk y k) (hR : rmOkX rm R maxL)
    (hn : As.length = k) (hstk : st0 = As.reverse ++ rest) (hrs : (rest.map fun v => v.category).sum ≤ 8) (hdg : decode cc pc = .ok (.invokestatic index, 3)) (hcs : cells + 1 ≤ R.cells ∧ slots + 6 ≤ R.slots)
    (kk : ∀ (r : Int32) (σ1 : S9) (f1 : Nat → Int64) (H1 : Heap) (locs1 : List Loc), Ψ r σ1 f1 → LH G Gm cJ o σ1 τ f1 s H1 locs1 → W p l e R s m args below meth c H1 locs1 (cells + 1) (slots + 6) Q (F0 m (pc + 3) ls (.int r :: rest))) : W p l e R s m args below meth c H locs cells slots Q (F0 m pc ls st0) := by
  obtain ⟨hx, hb, hown, hU, hK, hJ⟩ := hE
  obtain ⟨hP, hPm, hO, hS⟩ := hw
  refine va_calli (vx_runSW (hh := hh) (nL := nL) (As := As) (rest := rest) ⟨hx, hb, hml, hown, hU⟩ hM ⟨⟨hR.1, hR.2.1, hR.2.2.1, hR.2.2.2, pay_in hU (goodUW hc), List.mem_cons_self⟩, hU _ hc, hU _ hini, ⟨hy.1, hy.2.1⟩, fun sig h => (Option.some.inj ((by rw [← hy.2.2, h]; rfl : some sig.parameters.length = some k))).symm, hU _ hl, hU _ hst⟩ ⟨wPre.blind, fun U hU1 hW => ⟨rfl, hK.warm hW, va_K.moved hW.alike hKJ, by rw [hU1]; exact hP, by rw [hU1]; exact hO, (hT.warm hW (by rw [hU1]; exact hS.2.1)).narrow (fun q h => hA.oC h)⟩⟩ rfl hn hsize hstk (lv_room hrs) hdg hcs) hS (fun q _ h => hA.oC h) (fun q h => hA.oC h) (fun r u t H1 locs1 ht hvm hp hB hz hk hS1 => ?_)
  obtain ⟨hP1, hO1⟩ := hB
  rw [ht] at hP1 hO1
  refine kk r u.1 u.2 H1 locs1 hp ⟨hP1, keepW hPm (mwlD hA.1.2).2 hk (fun q h h' => ?_), hO1, hS1⟩
  rcases h' with h' | h'
  · exact hA.cm h' h
  · rw [h'] at h; exact hA.mo h
theorem lcLd (hE : Ev 40 G p s m args c cc RL) (hKJ : va_K G.1 vwCl [(cJ, .long)] s) (hw : LH G Gm cJ o σ τ f s H locs) (hdg : decode cc pc = .ok (.laload, 1))
    (kk : W p l e R s m args below meth c H locs cells slots Q (F0 m (pc + 1) ls (.long (f 0) :: rest))) : W p l e R s m args below meth c H locs cells slots Q (F0 m pc ls (.int 0 :: .ref o :: rest)) :=
  va_lald hE.1 hE.2.1 hKJ hw.2.2.1 0 0 rfl rfl (pk_in 0 1 (by omega)) hdg kk
end LRows
