/-! ===== the law's own ten static methods: each calls the class, and catches what it throws ===== -/
abbrev oW (cJ : ClassId) (o : Nat) (f : Nat → Int64) : va_W := [(o, .inl (cJ, 1, .inr (.inl f)))]
theorem oW_in {cJ : ClassId} {o : Nat} {f : Nat → Int64} (k : Nat) (q : Nat × va_E) (h : (oW cJ o f)[k]? = some q) : q.1 = o := by
  have h0 : k = 0 := by have := (List.getElem?_eq_some_iff.mp h).1; simp at this; exact this
  subst h0
  have he : ((o, .inl (cJ, 1, .inr (.inl f))) : Nat × va_E) = q := Option.some.inj h
  rw [← he]
def oR (G : GG) (o : Nat) : Nat → Prop := fun q => gRg 40 G q ∨ q = o
def wPre (G : GG) (cJ : ClassId) (o : Nat) (av : List Value) (σ : S9) (f : Nat → Int64) : Array Value → State → Prop := va_Pc av (fun U => gK G U ∧ va_K G.1 vwCl [(cJ, .long)] U ∧ va_P G.1 vwCl (cwl G σ) U.heap ∧ va_P G.1 vwCl (oW cJ o f) U.heap ∧ T9 (oR G o) U)
theorem wPre.blind {G : GG} {cJ : ClassId} {o : Nat} {av : List Value} {σ : S9} {f : Nat → Int64} : FrameBlind (wPre G cJ o av σ f) := fun a U g mk q => ⟨q.1, q.2.1.calling, va_K.moved (u := U) (U := U.calling g mk a) (Vm.Alike.refl U.vm) q.2.2.1, q.2.2.2.1, q.2.2.2.2.1, q.2.2.2.2.2.calling⟩
abbrev wQ (G : GG) (cJ : ClassId) (o : Nat) (Ψ : Int32 → S9 → (Nat → Int64) → Prop) : Array Value → State → Outcome → State → Prop := va_Qi (S := S9 × (Nat → Int64)) (fun k u => Ψ k u.1 u.2) (fun u t => va_P G.1 vwCl (cwl G u.1) t.heap ∧ va_P G.1 vwCl (oW cJ o u.2) t.heap) (oR G o)
def WC (G : GG) (l : Launch) (cJ : ClassId) (o : Nat) (y : MethodName) (cb : ByteArray) (maxL : Nat) (hh : List (Nat × Nat × Nat × Nat)) (rm : Room) (av : List Value) (σ : S9) (f : Nat → Int64) (Ψ : Int32 → S9 → (Nat → Int64) → Prop) : Prop :=
  Met l y (.codeWith y cb maxL (some .int) hh :: UW) rm (wPre G cJ o av σ f) (wQ G cJ o Ψ) 1 6 (oR G o)
theorem met_with {l : Launch} {y : MethodName} {ws ws' : List Cond} {rm : Room} {Pc : Array Value → State → Prop} {Qc : Array Value → State → Outcome → State → Prop} {mc ms : Nat} {free : Addr → Prop} {cc : ByteArray} {maxL : Nat} {ret : Option FieldType} {hh : List (Nat × Nat × Nat × Nat)}
    (hy : plainName y.cls = true) (hw : ws = Cond.codeWith y cc maxL ret hh :: ws')
    (body : ∀ p e s m args below meth c s₁, BodyLoose p l y (headSpec ws rm) cc maxL ret e s m args below meth c s₁ → c.maxLocals = maxL → Pc args s → W p l e (headSpec ws rm).room s m args below meth c s.heap [] 0 0 (MQ below Qc args s mc ms free) (entryFrame m args maxL)) : Met l y ws rm Pc Qc mc ms free := by
  refine MetFree.of_bodyS (code := cc) (maxLocals := maxL) (ret := ret) hy ?_ ?_
  · intro args s m h hn
    obtain ⟨m9, meth, c, hn9, h1, h2, h3, h4, -, h5, h6, -⟩ := Cond.codeWith_spec (atoms_spec (ws := ws) h _ (by rw [hw]; exact List.mem_cons_self))
    cases hn.symm.trans hn9
    exact ⟨meth, c, h1, h2, h3, h4, h5, h6⟩
  · intro p e s m args below meth c s₁ B hml hP _
    have hh0 : s₁.heap = s.heap := by rw [B.state]; rfl
    obtain ⟨t, a1, o, b1, b2, b3⟩ := body p e s m args below meth c s₁ B hml hP s₁ hh0 (Stand.of_body B)
    exact ⟨t, o, a1, b1, b2, ⟨b3.1, b3.2⟩⟩
/-- what a wrapper's frame holds of the heap -/
def wH (G : GG) (cJ : ClassId) (o : Nat) (σ : S9) (f : Nat → Int64) (H0 H : Heap) (locs : List Loc) : Prop := va_P G.1 vwCl (cwl G σ) H ∧ va_P G.1 vwCl (oW cJ o f) H ∧ va_S (oR G o) H0 H locs
def oOk (G : GG) (o : Nat) : Prop := ¬ gRg 40 G o
theorem oW_kept {G : GG} {cJ : ClassId} {o : Nat} {f : Nat → Int64} {H H1 : Heap} (hO : va_P G.1 vwCl (oW cJ o f) H) (hk : ∀ q : Nat, q < H.size → ¬ gRg 40 G q → H1[q]? = H[q]?) (ho : oOk G o) : va_P G.1 vwCl (oW cJ o f) H1 := by
  refine hO.kept fun k q hq => ?_
  exact hk q.1 (hO k q hq).lt (by rw [oW_in k q hq]; exact ho)
section WBase
variable {p : Program} {l : Launch} {e : Env} {R : Room} {s : State} {m : MethodId} {args : Array Value} {below : List Frame} {meth : Method} {c : Code} {H : Heap} {locs : List Loc} {cells slots : Nat} {Q : State → Prop} {cc : ByteArray} {pc : Nat} {ls : Array Slot} {rest : List Value} {G : GG} {σ : S9} {cJ : ClassId} {o : Nat} {f : Nat → Int64} {Ψ : Int32 → S9 → (Nat → Int64) → Prop}
theorem WC.intro {y : MethodName} {cb : ByteArray} {maxL : Nat} {hh : List (Nat × Nat × Nat × Nat)} {rm : Room} {av : List Value} (hy : plainName y.cls = true) (hav : (lg_sl av).length ≤ maxL) (hJ : gJ 40 G)
    (body : ∀ p e s m args below meth c ls, Ev 40 G p s m args c cb y.cls → T9 (oR G o) s → va_K G.1 vwCl [(cJ, .long)] s → c.exceptionTable.toList = tableOf hh → c.maxLocals = maxL → meth.sig.returnType = some .int → meth.locks = false → wH G cJ o σ f s.heap s.heap [] → lv_has ls maxL (lv_args 0 av) → W p l e rm s m args below meth c s.heap [] 0 0 (MQ below (wQ G cJ o Ψ) args s 1 6 (oR G o)) (F0 m 0 ls [])) : WC G l cJ o y cb maxL hh rm av σ f Ψ := by
  refine met_with (cc := cb) (maxL := maxL) (ret := some .int) hy rfl ?_
  intro p e s m args below meth c s₁ B hml hv
  obtain ⟨rfl, hK, hKJ, hP, hO, hT⟩ := hv
  have ht := vx_table (x := y) B (atoms_spec (ws := .codeWith y cb maxL (some .int) hh :: UW) B.pre _ List.mem_cons_self)
  rw [lg_entry_eq]
  exact body p e s m _ below meth c _ ⟨B.exec, B.bytes, findClass_of_methodNamed B.named, fun w hw => atoms_spec (ws := .codeWith y cb maxL (some .int) hh :: UW) B.pre w (List.mem_cons_of_mem _ hw), hK, hJ⟩ hT hKJ ht hml B.returns B.notSynchronized ⟨hP, hO, va_S.rf⟩ (lv_entry av hav)
theorem wRet {v : Int32} {own : String} (hE : Ev 40 G p s m args c cc own) (hr : meth.sig.returnType = some .int) (hlocks : meth.locks = false) (hw : wH G cJ o σ f s.heap H locs) (hq : Ψ v σ f) (hdg : decode cc pc = .ok (.ireturn, 1)) : W p l e R s m args below meth c H locs 1 6 (MQ below (wQ G cJ o Ψ) args s 1 6 (oR G o)) (F0 m pc ls [.int v]) :=
  W.iret (v := v) hE.1 hE.2.1 hr (fun t ht _ => ⟨⟨v, (σ, f), rfl, hq, by show va_P _ _ _ t.heap ∧ va_P _ _ _ t.heap; rw [ht]; exact ⟨hw.1, hw.2.1⟩⟩, hw.2.2.F ht⟩) hw.2.2.2.2 hdg
theorem wLast {x : Int64} {own : String} (hE : Ev 40 G p s m args c cc own) (hKJ : va_K G.1 vwCl [(cJ, .long)] s) (ho : oOk G o) (hw : wH G cJ o σ f s.heap H locs) (hdg : decode cc pc = .ok (.lastore, 1))
    (kk : ∀ (H1 : Heap) (locs1 : List Loc), wH G cJ o σ (vp_updL f 0 x) s.heap H1 locs1 → W p l e R s m args below meth c H1 locs1 cells slots Q (F0 m (pc + 1) ls rest)) : W p l e R s m args below meth c H locs cells slots Q (F0 m pc ls (.long x :: .int 0 :: .ref o :: rest)) := by
  have hD : va_D (oR G o) (cwl G σ ++ oW cJ o f) := by
    refine va_D.app ((cwlD hE.2.2.2.2.2).weaken fun k q _ h => Or.inl h) ⟨fun i j a b hi hj _ => ?_, fun k q hq => ?_⟩ (fun i j a b hi hj => ?_)
    · have h1 := (List.getElem?_eq_some_iff.mp hi).1
      have h2 := (List.getElem?_eq_some_iff.mp hj).1
      simp at h1 h2; omega
    · exact Or.inr (oW_in k q hq)
    · intro hab
      have := (cwlD (σ := σ) hE.2.2.2.2.2).2 i a hi
      rw [hab, oW_in j b hj] at this
      exact ho this
  refine va_last hE.1 hE.2.1 hKJ (hw.1.app hw.2.1) hD hw.2.2 40 0 rfl rfl (pk_in 0 1 (by omega)) hdg (fun H1 locs1 hP1 hD1 hS1 => kk H1 locs1 ⟨?_, ?_, hS1⟩)
  · have hP2 : va_P G.1 vwCl (cwl G σ ++ oW cJ o (vp_updL f 0 x)) H1 := hP1
    exact fun k q hk => hP2 k q (by rw [List.getElem?_append_left (List.getElem?_eq_some_iff.mp hk).1]; exact hk)
  · have hP2 : va_P G.1 vwCl (cwl G σ ++ oW cJ o (vp_updL f 0 x)) H1 := hP1
    exact fun k q hk => hP2 (40 + k) q (by rw [List.getElem?_append_right (by show 40 ≤ _; omega), show 40 + k - (cwl G σ).length = k by show 40 + k - 40 = k; omega]; exact hk)
section WCallS
variable {y : MethodName} {cb : ByteArray} {maxL nL k index : Nat} {ret : Option FieldType} {rm : Room} {As : List Value} {st0 : List Value} {kl : List (String × Int32)} {Θ : Int32 → S9 → Prop}
abbrev rmOkX (rm R : Room) (maxL : Nat) : Prop := rm.cells = 1 ∧ rm.slots = 6 ∧ rm.frames + 1 ≤ R.frames ∧ 8 + (maxL + 11) + rm.locals ≤ R.locals
theorem wCall {Φ : Int32 → S9 → Prop} (hE : Ev 40 G p s m args c cc RL) (hT : T9 (oR G o) s) (ho : oOk G o) (hml : c.maxLocals = nL) (hsize : ls.size = nL) (hw : wH G cJ o σ f s.heap H locs) (hM : XI cwl 40 G l y cb maxL ret rm (.ref (gAd G 0) :: As) σ Φ kl Θ)
    (hc : Cond.code y cb maxL ret ∈ UW) (hl : Cond.methodLink RL index y ∈ UW) (hi : Cond.instanceMethod y ∈ UW) (hs : Cond.selects RX10 y y ∈ UW) (hini : Cond.initialized RX10 ∈ UW) (hC : y.cls = RX10) (hy : yOk y k) (hR : rmOkX rm R maxL)
    (hn : As.length = k) (hstk : st0 = As.reverse ++ .ref (gAd G 0) :: rest) (hrs : (rest.map fun v => v.category).sum ≤ 8) (hdg : decode cc pc = .ok (.invokevirtual index, 3)) (hcs : 0 + 1 ≤ R.cells ∧ 0 + 6 ≤ R.slots)
    (kx : ∀ (E : String) (j : Int32) (ce : Cell) (q9 : Addr) (σ1 : S9) (H1 : Heap) (locs1 : List Loc), (E, j) ∈ kl → Θ j σ1 → wH G cJ o σ1 f s.heap H1 locs1 → H1[q9]? = some ce → ce.vm = .none → s.vm.findClass E = some ce.cls → vx_W p l e R s m args below meth c H1 locs1 1 6 Q (F0 m pc ls rest) q9)
    (kk : ∀ (r : Int32) (σ1 : S9) (H1 : Heap) (locs1 : List Loc), Φ r σ1 → wH G cJ o σ1 f s.heap H1 locs1 → W p l e R s m args below meth c H1 locs1 1 6 Q (F0 m (pc + 3) ls (.int r :: rest))) : W p l e R s m args below meth c H locs 0 0 Q (F0 m pc ls st0) := by
  obtain ⟨hx, hb, hown, hU, hK, hJ⟩ := hE
  have hrecv : ∃ cell, H[gAd G 0]? = some cell ∧ cell.vm.isStatics = false ∧ s.vm.findClass y.cls = some cell.cls := by rw [hC]; exact va_recv hK.1 hw.1 (q0 := 0) (ci := 10) rfl rfl
  refine vx_calli (vx_runV (nL := nL) (As := As) (rest := rest) ⟨hx, hb, hml, hown, hU⟩ hM ⟨callB_of k hU (goodUW hc) rfl hR.1 hR.2.1 (by rw [hC]; exact hU _ hini) (hU _ hl) hy hR.2.2, hU _ hi, by rw [hC]; exact hU _ hs⟩ ⟨gPreX.blind, hrecv, fun U hU1 hW => ⟨rfl, hK.warm hW, by rw [hU1]; exact hw.1, (hT.warm hW (by rw [hU1]; exact hw.2.2.2.1)).narrow (fun q h => Or.inl h)⟩⟩ rfl hn hsize hstk (lv_room hrs) hdg hcs) hw.2.2 (fun q _ h => Or.inl h) (fun q h => Or.inl h) (fun q _ h => Or.inl h) (fun E ce q9 u t H1 locs1 ht hvm _ hB hz hk hS h1 h2 h3 => ?_) (fun r u t H1 locs1 ht hvm hp hB hz hk hS => ?_)
  · obtain ⟨⟨j, hj, hth⟩, hP1⟩ := hB
    rw [ht] at hP1
    exact kx E j ce q9 u H1 locs1 hj hth ⟨hP1, oW_kept hw.2.1 hk ho, hS⟩ h1 h2 h3
  · exact kk r u H1 locs1 hp ⟨by rw [← ht]; exact hB, oW_kept hw.2.1 hk ho, hS⟩
theorem wCallv {Φ : S9 → Prop} (hE : Ev 40 G p s m args c cc RL) (hT : T9 (oR G o) s) (ho : oOk G o) (hml : c.maxLocals = nL) (hsize : ls.size = nL) (hw : wH G cJ o σ f s.heap H locs) (hM : XV cwl 40 G l y cb maxL rm (.ref (gAd G 0) :: As) σ Φ kl Θ)
    (hc : Cond.code y cb maxL none ∈ UW) (hl : Cond.methodLink RL index y ∈ UW) (hi : Cond.instanceMethod y ∈ UW) (hs : Cond.selects RX10 y y ∈ UW) (hini : Cond.initialized RX10 ∈ UW) (hC : y.cls = RX10) (hy : yOk y k) (hR : rmOkX rm R maxL)
    (hn : As.length = k) (hstk : st0 = As.reverse ++ .ref (gAd G 0) :: rest) (hrs : (rest.map fun v => v.category).sum ≤ 8) (hdg : decode cc pc = .ok (.invokevirtual index, 3)) (hcs : 0 + 1 ≤ R.cells ∧ 0 + 6 ≤ R.slots)
    (kx : ∀ (E : String) (j : Int32) (ce : Cell) (q9 : Addr) (σ1 : S9) (H1 : Heap) (locs1 : List Loc), (E, j) ∈ kl → Θ j σ1 → wH G cJ o σ1 f s.heap H1 locs1 → H1[q9]? = some ce → ce.vm = .none → s.vm.findClass E = some ce.cls → vx_W p l e R s m args below meth c H1 locs1 1 6 Q (F0 m pc ls rest) q9)
    (kk : ∀ (σ1 : S9) (H1 : Heap) (locs1 : List Loc), Φ σ1 → wH G cJ o σ1 f s.heap H1 locs1 → W p l e R s m args below meth c H1 locs1 1 6 Q (F0 m (pc + 3) ls rest)) : W p l e R s m args below meth c H locs 0 0 Q (F0 m pc ls st0) := by
  obtain ⟨hx, hb, hown, hU, hK, hJ⟩ := hE
  have hrecv : ∃ cell, H[gAd G 0]? = some cell ∧ cell.vm.isStatics = false ∧ s.vm.findClass y.cls = some cell.cls := by rw [hC]; exact va_recv hK.1 hw.1 (q0 := 0) (ci := 10) rfl rfl
  refine vx_callv (vx_runV (nL := nL) (As := As) (rest := rest) ⟨hx, hb, hml, hown, hU⟩ hM ⟨callB_of k hU (goodUW hc) rfl hR.1 hR.2.1 (by rw [hC]; exact hU _ hini) (hU _ hl) hy hR.2.2, hU _ hi, by rw [hC]; exact hU _ hs⟩ ⟨gPreX.blind, hrecv, fun U hU1 hW => ⟨rfl, hK.warm hW, by rw [hU1]; exact hw.1, (hT.warm hW (by rw [hU1]; exact hw.2.2.2.1)).narrow (fun q h => Or.inl h)⟩⟩ rfl hn hsize hstk (lv_room hrs) hdg hcs) hw.2.2 (fun q _ h => Or.inl h) (fun q h => Or.inl h) (fun q _ h => Or.inl h) (fun E ce q9 u t H1 locs1 ht hvm _ hB hz hk hS h1 h2 h3 => ?_) (fun u t H1 locs1 ht hvm hp hB hz hk hS => ?_)
  · obtain ⟨⟨j, hj, hth⟩, hP1⟩ := hB
    rw [ht] at hP1
    exact kx E j ce q9 u H1 locs1 hj hth ⟨hP1, oW_kept hw.2.1 hk ho, hS⟩ h1 h2 h3
  · exact kk u H1 locs1 hp ⟨by rw [← ht]; exact hB, oW_kept hw.2.1 hk ho, hS⟩
end WCallS
end WBase
