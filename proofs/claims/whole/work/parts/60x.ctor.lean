/-! ===== a throw of a class whose constructor's link isn't the library's usual one (NoSuchElementException: entry 13) ===== -/
/-- the two fields of Throwable that the heap decides -/
abbrev nsHeap : List Cond := [.isRef (.static Bundle.tN "UNASSIGNED_STACK" Bundle.steD), .isRef (.static Bundle.tN "SUPPRESSED_SENTINEL" Bundle.listD)]
def nsLaid (cls : String) : List Cond := [.lays cls Bundle.tN "cause" "Ljava/lang/Throwable;", .lays cls Bundle.tN "stackTrace" Bundle.steD, .lays cls Bundle.tN "suppressedExceptions" Bundle.listD, .lays cls Bundle.tN "detailMessage" "Ljava/lang/String;", .lays cls Bundle.tN "backtrace" "Ljava/lang/Object;"]
def nsOwn (own : String) (ic : Nat) (cls : String) : List Cond := [.methodLink own ic (Bundle.initS cls), .instantiable cls 6, .selects cls Bundle.tFill0 Bundle.tFill0, .selects cls Bundle.tFill Bundle.tFill, .fieldLink Bundle.tN 198 Bundle.tN "backtrace" "Ljava/lang/Object;", .lays Bundle.tN Bundle.tN "backtrace" "Ljava/lang/Object;"]
def nsAll (own : String) (ic : Nat) (cls sup : String) (ix : Nat) (rx : ByteArray) (up : List String) : List Cond :=
  (Bundle.passSAtoms cls sup ix rx ++ Bundle.chainSAtoms sup up) ++ ((Bundle.throwableAtoms ++ Bundle.throwableSAtoms) ++ (nsHeap ++ (nsLaid cls ++ nsOwn own ic cls)))
section NsCtor
variable {s : State} {args : Array Value} {own cls sup : String} {ic ix : Nat} {rx : ByteArray} {up : List String}
theorem ns_pass (h : ∀ w ∈ nsAll own ic cls sup ix rx up, w.before args s = true) : ∀ w ∈ Bundle.passSAtoms cls sup ix rx, w.before args s = true := fun w hw => h w (List.mem_append_left _ (List.mem_append_left _ hw))
theorem ns_chain (h : ∀ w ∈ nsAll own ic cls sup ix rx up, w.before args s = true) : ∀ w ∈ Bundle.chainSAtoms sup up, w.before args s = true := fun w hw => h w (List.mem_append_left _ (List.mem_append_right _ hw))
theorem ns_t (h : ∀ w ∈ nsAll own ic cls sup ix rx up, w.before args s = true) : ∀ w ∈ Bundle.throwableAtoms, w.before args s = true := fun w hw => h w (List.mem_append_right _ (List.mem_append_left _ (List.mem_append_left _ hw)))
theorem ns_ts (h : ∀ w ∈ nsAll own ic cls sup ix rx up, w.before args s = true) : ∀ w ∈ Bundle.throwableSAtoms, w.before args s = true := fun w hw => h w (List.mem_append_right _ (List.mem_append_left _ (List.mem_append_right _ hw)))
theorem ns_heap (h : ∀ w ∈ nsAll own ic cls sup ix rx up, w.before args s = true) : ∀ w ∈ nsHeap, w.before args s = true := fun w hw => h w (List.mem_append_right _ (List.mem_append_right _ (List.mem_append_left _ hw)))
theorem ns_laid (h : ∀ w ∈ nsAll own ic cls sup ix rx up, w.before args s = true) : ∀ w ∈ nsLaid cls, w.before args s = true := fun w hw => h w (List.mem_append_right _ (List.mem_append_right _ (List.mem_append_right _ (List.mem_append_left _ hw))))
theorem ns_own (h : ∀ w ∈ nsAll own ic cls sup ix rx up, w.before args s = true) : ∀ w ∈ nsOwn own ic cls, w.before args s = true := fun w hw => h w (List.mem_append_right _ (List.mem_append_right _ (List.mem_append_right _ (List.mem_append_right _ hw))))
/-- the constructors, from the class itself up to Throwable's -/
theorem ns_links {pl : Platform} (hpl : pl.magicAccessors = ({} : Platform).magicAccessors) {top : MethodId} (htop : s.methodNamed? (Bundle.initS Bundle.tN) = some top) (hcls : Bundle.fit cls = true) (hsup : Bundle.fit sup = true) (hup : ∀ n ∈ up, Bundle.fit n = true)
    (x0 : decode rx 0 = .ok (.aload_n 0, 1)) (x1 : decode rx 1 = .ok (.aload_n 1, 1)) (x2 : decode rx 2 = .ok (.invokespecial ix, 3)) (x5 : decode rx 5 = .ok (.return_, 1)) (h : ∀ w ∈ nsAll own ic cls sup ix rx up, w.before args s = true) :
    ∃ (P : PassC) (Ps : List PassC), s.methodNamed? (Bundle.initS cls) = some P.m ∧ Ps.length = up.length + 1 ∧ (∀ q ∈ P :: Ps, q.LinksS pl s) ∧ PassesOn top ((P :: Ps).map (·.toPassT)) := by
  obtain ⟨P, lP, mP, sP⟩ := PassC.ofS_atoms hpl (Bundle.fit_spec hcls).1 (Bundle.fit_spec hsup).2 x0 x1 x2 x5 (ns_pass h)
  obtain ⟨P2, Ps, n2, l2, lPs, m2, f2, o2⟩ := Bundle.chainS hpl htop up sup hsup hup (ns_chain h)
  refine ⟨P, P2 :: Ps, mP, by rw [List.length_cons, n2], fun q hq => ?_, ?_⟩
  · rcases List.mem_cons.mp hq with e | hq
    · rw [e]; exact lP
    · rcases List.mem_cons.mp hq with e | hq
      · rw [e]; exact l2
      · exact lPs q hq
  · exact ⟨Option.some.inj (sP.symm.trans m2), f2, o2⟩
end NsCtor
section NsRun
variable {p : Program} {l : Launch} {e : Env} {R : Room} {s : State} {m : MethodId} {args : Array Value} {below : List Frame} {meth : Method} {c : Code} {U : State} {cells slots : Nat} {own cls sup : String} {ic ix : Nat} {rx : ByteArray} {up : List String}
/-- a fresh cell of the class: where its five fields of Throwable lie, apart from each other -/
theorem ns_at {cX : ClassId} {kX : Class} {name desc : String} {c' i : Nat} {k' : Class} {f : Field} (hc : s.vm.findClass cls = some cX) (hk : s.vm.classes[cX]? = some kX) (hf : s.fieldFound? Bundle.tN name desc = some (c', k', i, f)) (hw : (Cond.lays cls Bundle.tN name desc).before args s = true) :
    kX.instanceTypes[f.slot]? = some f.type ∧ ∃ d, Jmm.declares? s.vm f.slot (cX + 1) cX = some d ∧ d.2.name = f.name := Cond.laysAt hc hk hf hw
set_option maxHeartbeats 1000000 in
theorem ns_run (X : Stand p l e R s m args below meth c U [] cells slots) (hexec : p.tables.exec = Jvm.exec) (htr : e.platform.stackTraces = false) (hown : s.vm.findClass own = some m.cls) (hcls : Bundle.fit cls = true) (hsup : Bundle.fit sup = true) (hup : ∀ n ∈ up, Bundle.fit n = true)
    (x0 : decode rx 0 = .ok (.aload_n 0, 1)) (x1 : decode rx 1 = .ok (.aload_n 1, 1)) (x2 : decode rx 2 = .ok (.invokespecial ix, 3)) (x5 : decode rx 5 = .ok (.return_, 1)) (h : ∀ w ∈ nsAll own ic cls sup ix rx up, w.before args s = true)
    {a : Addr} {cX : ClassId} {kX : Class} (hfX : s.vm.findClass cls = some cX) (hkX : s.vm.classes[cX]? = some kX) (hcell : U.heap[a]? = some (freshCell cX kX)) (hnew : s.heap.size ≤ a) {msg : Value} (hmsg : msg.isRef = true)
    {g : JFrame} (hg : g.method = m) (hsize : g.locals.size = c.maxLocals) (hlocked : g.locked = none) (hentered : g.entered = []) {rest : List Value} (hstack : g.stack = msg :: .ref a :: .ref a :: rest)
    (d6 : decode c.code g.pc = .ok (.invokespecial ic, 3)) (d9 : decode c.code (g.pc + 3) = .ok (.athrow, 1)) (hout : ∀ x ∈ c.exceptionTable.toList, covers x (g.pc + 3) = false)
    (hRf : up.length + 4 < R.frames) (hRl : 2 * g.monitorRoom + ((Value.ref a :: rest).map fun v => v.category).sum + (13 * (up.length + 2) + 42) ≤ R.locals) (hlocks : meth.locks = false) :
    ∃ V : State, Steps p.tables e below (U.setTop g) V ∧ V.status = .running ∧ Ended V below (.threw a) ∧ s.WarmedH V.vm ∧ s.sameButNew ({ V with vm := s.vm } : State) [] cells slots ∧ ∃ ce, V.heap[a]? = some ce ∧ ce.vm = .none ∧ ce.cls = cX := by
  have hP := X.admits.platform
  have hpl : e.platform.magicAccessors = ({} : Platform).magicAccessors := by rw [hP]
  obtain ⟨T, Z0, LT, -, TY⟩ := ThrowableC.of_atoms (args := args) (pl := e.platform) (by rw [hP]) (by rw [hP]) hpl (ns_t h)
  obtain ⟨Z, M, LZ, LM, nZ⟩ := Init0T.ofS_atoms hpl LT TY (ns_ts h)
  obtain ⟨P, Ps, mP, nP, lP, oP⟩ := ns_links hpl nZ hcls hsup hup x0 x1 x2 x5 h
  have O : ∀ w ∈ nsOwn own ic cls, w.before args s = true := ns_own h
  have D : ∀ w ∈ nsLaid cls, w.before args s = true := ns_laid h
  have cP : P.m.cls = cX := Option.some.inj ((findClass_of_methodNamed mP).symm.trans hfX)
  -- the class is an ordinary one
  obtain ⟨c1, k1, f1, k1', hord, -⟩ := Cond.instantiable_spec (O (.instantiable cls 6) (by simp [nsOwn]))
  cases Option.some.inj (f1.symm.trans hfX)
  cases Option.some.inj (k1'.symm.trans hkX)
  -- which methods its objects select
  have sel : ∀ (y : MethodName) (k : MethodId), s.methodNamed? y = some k → (y.cls ≠ "java/lang/invoke/MethodHandle" ∧ y.cls ≠ "java/lang/invoke/VarHandle") → (Cond.selects cls y y).before args s = true → selectMethod e.platform s.vm cX k = .method k := by
    intro y k hy hne hw
    obtain ⟨c2, r2, m2, q1, q2, q3, q4, -⟩ := Cond.selects_spec hw
    cases Option.some.inj (q1.symm.trans hfX)
    cases Option.some.inj (q2.symm.trans (State.methodFound?_of_named hy hne))
    cases Option.some.inj (q3.symm.trans hy)
    rw [Launch.admits_selectMethod X.admits]; exact q4
  -- Throwable's statics
  obtain ⟨cS, hcS, hS⟩ := TY.statics
  obtain ⟨u0, hu0⟩ := Cond.staticRefV TY.unassigned LT.unassignedStatic LT.statics hcS hS (ns_heap h _ List.mem_cons_self)
  obtain ⟨sen, hsen⟩ := Cond.staticRefV TY.sentinel LT.sentinelStatic LT.statics hcS hS (ns_heap h _ (List.mem_cons_of_mem _ List.mem_cons_self))
  obtain ⟨cS', hcS', eS, -, keepS⟩ := X.same.2.2.2.2.2 T.aS cS hcS
  have slotS : ∀ j, cS'.slots[j]? = cS.slots[j]? := fun j => keepS j (fun hm => nomatch hm)
  have knownS : cS'.vm ≠ .unknown := fun hu => by
    have e9 : cS'.vm = cS.vm := by rw [eS]
    rw [← e9, hu] at hS; cases hS
  have apartS : T.aS ≠ a := fun e9 => absurd (Array.getElem?_eq_some_iff.mp hcS).1 (by rw [e9]; omega)
  -- its fields
  obtain ⟨iM, fM⟩ := TY.msg
  obtain ⟨ci, ii, fB, lkB, rtB, atB, stB, -, nmB, tyB, ffB⟩ := Cond.ownField (t := .object "java/lang/Object") TY.found LT.cls (by decide +kernel) (O (.fieldLink Bundle.tN 198 Bundle.tN "backtrace" "Ljava/lang/Object;") (by simp [nsOwn])) (O (.lays Bundle.tN Bundle.tN "backtrace" "Ljava/lang/Object;") (by simp [nsOwn])) e.platform hpl
  obtain ⟨t1, e1, g1, n1⟩ := ns_at hfX hkX TY.cause (D _ (by simp [nsLaid]))
  obtain ⟨t2, e2, g2, n2⟩ := ns_at hfX hkX TY.stack (D _ (by simp [nsLaid]))
  obtain ⟨t3, e3, g3, n3⟩ := ns_at hfX hkX TY.supp (D _ (by simp [nsLaid]))
  obtain ⟨t4, -⟩ := ns_at hfX hkX fM (D _ (by simp [nsLaid]))
  obtain ⟨t5, e5, g5, n5⟩ := ns_at hfX hkX ffB (D _ (by simp [nsLaid]))
  have b1 := Cond.laysApart g5 g1 n5 n1 (by rw [nmB, TY.causeName]; decide)
  have b2 := Cond.laysApart g5 g2 n5 n2 (by rw [nmB, TY.stackName]; decide)
  have b3 := Cond.laysApart g5 g3 n5 n3 (by rw [nmB, TY.suppName]; decide)
  have nullB : (freshCell cX kX).slots[fB.slot]? = some .null := by
    have := fresh_default (c := cX) t5
    rw [tyB] at this; exact this
  have skip : SkipFacts T e.platform s (fun u => u) u0 ((preparedCellV T.toThrowableT (freshCell cX kX) a u0 sen).withEntry U.cur) := by
    refine ⟨⟨ci, ii, fB⟩, ⟨lkB, rtB, atB, stB⟩, ?_, fun _ _ => rfl⟩
    simpa [preparedCellV, Cell.setSlot, Cell.withEntry, Array.getElem?_setIfInBounds, b1.symm, b2.symm, b3.symm] using nullB
  -- the call, the constructor, the throw
  obtain ⟨tm, -, -, -, v1, nm1, -, -, -, -, -, -, -, w1, s1⟩ := Steps.initColdS (tb := p.tables) (e := e) (below := below) X.here hexec X.warmed hpl hown (t := Bundle.initS cls) rfl rfl (Bundle.fit_spec hcls).2 (O (.methodLink own ic (Bundle.initS cls)) (by simp [nsOwn])) (ns_pass h (.instanceMethod (Bundle.initS cls)) (by simp [Bundle.passSAtoms])) (bytes := rx) (maxL := 2) (ns_pass h (.code (Bundle.initS cls) rx 2 none) (by simp [Bundle.passSAtoms])) (f := g) hg (rest := .ref a :: rest) hstack d6
  have etm : tm = P.m := Option.some.inj (nm1.symm.trans mP)
  obtain ⟨v2, X2, s2⟩ := (X.noted w1).ctorMessageOffV hexec (g := { g with stack := .ref a :: rest }) hg hsize T LT Z LZ M LM (P :: Ps) lP oP (u0 := u0) (sen := sen) (self := a) hmsg (cell := freshCell cX kX) (cellS := cS') hcell (fun k hk => nomatch hk) (fun hk => nomatch hk) rfl rfl
    (sel _ _ TY.fill0 (by decide) (O _ (by simp [nsOwn]))) (sel _ _ TY.fill (by decide) (O _ (by simp [nsOwn]))) hcS' apartS knownS (by rw [slotS]; exact hu0) (by rw [slotS]; exact hsen)
    (Takes.of_laid hkX hord t1 (by rw [TY.causeType]; rfl)) (Takes.of_laid hkX hord t2 (by rw [TY.stackType]; exact fits_refV_array _ u0)) (Takes.of_laid hkX hord t3 (by rw [TY.suppType]; exact fits_refV_object _ sen)) (Takes.of_laid hkX hord t4 (by rw [TY.msgType]; exact fits_refV_object _ ⟨msg, hmsg⟩)) TY.objLocals skip htr [] d6
    (by simp only [List.length_cons, nP]; omega) (by simp only [List.length_cons, nP]; exact hRl)
  obtain ⟨s3, r3, e3', w3, q3⟩ := X2.athrowLeaves hexec (g := { g with stack := .ref a :: rest, pc := g.pc + 3 }) hg hlocked hentered hout (a := a) (rest := rest) rfl d9 hlocks
  have hlt : a < ((U.setVm v1).setVm v2).heap.size := (Array.getElem?_eq_some_iff.mp hcell).1
  refine ⟨_, s1 _ (fun acts => ?_), r3, e3', w3, q3.weaken (fun z hz hlt' => ?_) (Nat.le_refl _) (Nat.le_refl _), _, heapAt_setCell_self (s := (U.setVm v1).setVm v2) (plainBareV T.toThrowableT (freshCell cX kX) a u0 sen msg) hlt, rfl, rfl⟩
  · rw [doInvoke_state, etm]; exact s2 _ s3
  · have hb : z.base = a := by
      simp only [List.nil_append, List.mem_cons, List.not_mem_nil, or_false] at hz
      rcases hz with z1 | z1 | z1 | z1 | z1 <;> rw [z1]
    rw [hb] at hlt'; exact absurd hlt' (Nat.not_lt.mpr hnew)
end NsRun
/-- the words of such a throw but those that speak of the heap -/
def nsAt (own : String) (ic : Nat) (cls sup : String) (ix : Nat) (rx : ByteArray) (up : List String) : List Cond := (nsAll own ic cls sup ix rx up).filter vx_no
section NsThrow
variable {p : Program} {l : Launch} {e : Env} {R : Room} {s : State} {m : MethodId} {args : Array Value} {below : List Frame} {meth : Method} {c : Code} {H : Heap} {locs : List Loc} {cells slots : Nat} {free : Addr → Prop} {ls : Array Slot} {rest : List Value} {Qc : Array Value → State → Outcome → State → Prop} {XC : String → State → State → Prop}
set_option maxHeartbeats 1000000 in
theorem ns_throw {cc : ByteArray} {pc : Nat} (hexec : p.tables.exec = Jvm.exec) (hb : c.code = cc) (hl : l.stackTraces = false) {own cls sup text : String} {up : List String} {rx : ByteArray} {ik is ic ix mc ms sa : Nat} {A : Nat → Prop}
    (hown : s.vm.findClass own = some m.cls) (hcls : Bundle.fit cls = true) (hsup : Bundle.fit sup = true) (hup : ∀ n ∈ up, Bundle.fit n = true)
    (x0 : decode rx 0 = .ok (.aload_n 0, 1)) (x1 : decode rx 1 = .ok (.aload_n 1, 1)) (x2 : decode rx 2 = .ok (.invokespecial ix, 3)) (x5 : decode rx 5 = .ok (.return_, 1))
    (hk : (Cond.classLink own ik cls).before args s = true) (hini : (Cond.initialized cls).before args s = true) (hstr : vk_R own is text sa s) (hat : ∀ w ∈ nsAt own ic cls sup ix rx up, w.before args s = true)
    (hgood : ∀ w ∈ Cond.classLink own ik cls :: Cond.initialized cls :: nsAt own ic cls sup ix rx up, vx_ot w = true)
    (hU : vx_Zq Bundle.tN "UNASSIGNED_STACK" Bundle.steD A s s.heap) (hN : vx_Zq Bundle.tN "SUPPRESSED_SENTINEL" Bundle.listD A s s.heap) (hS : va_S A s.heap H locs) (hsize : ls.size = c.maxLocals)
    (d0 : decode cc pc = .ok (.new ik, 3)) (d3 : decode cc (pc + 3) = .ok (.dup, 1)) (d4 : decode cc (pc + 4) = .ok (.ldc is, 2)) (d6 : decode cc (pc + 6) = .ok (.invokespecial ic, 3)) (d9 : decode cc (pc + 9) = .ok (.athrow, 1))
    (hout : ∀ x ∈ c.exceptionTable.toList, covers x (pc + 9) = false)
    (hRframes : up.length + 4 < R.frames) (hRlocals : (rest.map fun v => v.category).sum + (13 * (up.length + 2) + 43) ≤ R.locals) (hRcells : cells + 1 ≤ R.cells) (hRslots : slots + 6 ≤ R.slots) (hlocks : meth.locks = false)
    (hx : ∀ t : State, s.vm.Alike t.vm → H.size ≤ t.heap.size → (∀ q : Nat, q < H.size → t.heap[q]? = H[q]?) → XC cls s t)
    (hf : ∀ z ∈ locs, free z.base) (hc : cells + 1 ≤ mc) (hs : slots + 6 ≤ ms) :
    W p l e R s m args below meth c H locs cells slots (vx_MQ below Qc XC args s mc ms free) (F0 m pc ls rest) := by
  intro T hT X
  have htr : e.platform.stackTraces = false := (show e.platform.stackTraces = l.stackTraces by rw [X.admits.platform]).trans hl
  have Y := vx_rebase X (R' := { frames := R.frames, locals := R.locals, cells := 1, slots := 6 }) (Nat.le_refl _) (Nat.le_refl _) hRcells hRslots
  obtain ⟨s', hA⟩ : ∃ z, z = (T.setVm s.vm).setFrames (.invoking m args :: below) := ⟨_, rfl⟩
  rw [← hA] at Y
  have hvm : s'.vm = s.vm := by rw [hA]; rfl
  have hhp : s'.heap = H := by rw [hA]; exact hT
  have hW0 : s.WarmedH s'.vm := by rw [hvm]; exact State.WarmedH.refl s
  have hat' : ∀ w ∈ nsAt own ic cls sup ix rx up, w.before args s' = true := fun w hw => vx_ot_at hW0 hvm.symm (hgood w (List.mem_cons_of_mem _ (List.mem_cons_of_mem _ hw))) (hat w hw)
  have hk' : (Cond.classLink own ik cls).before args s' = true := vx_ot_at hW0 hvm.symm (hgood _ List.mem_cons_self) hk
  have hini' : (Cond.initialized cls).before args s' = true := vx_ot_at hW0 hvm.symm (hgood _ (List.mem_cons_of_mem _ List.mem_cons_self)) hini
  have hU' : vx_Zq Bundle.tN "UNASSIGNED_STACK" Bundle.steD A s' s'.heap := by rw [hhp]; exact vx_Zq.moved hW0.alike (hU.kept hS.2.1)
  have hN' : vx_Zq Bundle.tN "SUPPRESSED_SENTINEL" Bundle.listD A s' s'.heap := by rw [hhp]; exact vx_Zq.moved hW0.alike (hN.kept hS.2.1)
  have h : ∀ w ∈ nsAll own ic cls sup ix rx up, w.before args s' = true := vx_own hat' (vx_isRefq hU'.1) (vx_isRefq hN'.1) hU'.2.word hN'.2.word
  have hown' : s'.vm.findClass own = some m.cls := by rw [hvm]; exact hown
  have hins : (Cond.instantiable cls 6).before args s' = true := ns_own h _ (by simp [nsOwn])
  obtain ⟨vm₁, cX, kX, hfX, hkX, -, -, X₁, st1⟩ := Y.newCold hexec (own := own) (C := cls) (index := ik) (n := 6) hown' hk' hins hini'
    (g := F0 m pc ls rest) rfl (by rw [hb]; exact d0) (Nat.le_refl _) (Nat.le_refl _)
  generalize hT1 : (T.setVm vm₁).pushCell { cls := cX, slots := kX.instanceTypes.map defaultValue, vm := .none } = T1 at X₁ st1
  have hcat : (Value.ref T.heap.size).category = 1 := rfl
  have hcellA : T1.heap[T.heap.size]? = some (freshCell cX kX) := by rw [← hT1]; exact State.heap_pushCell_size _ _
  have d3' : decode c.code (pc + 3) = .ok (.dup, 1) := by rw [hb]; exact d3
  have d4' : decode c.code (pc + 4) = .ok (.ldc is, 2) := by rw [hb]; exact d4
  have hstr' : vk_R own is text sa s' := vk_R.warm hW0 hstr
  obtain ⟨U, hsteps, hrun, hend, hW, hsame, ce, hce, hcv, hcc⟩ := ns_run X₁ hexec htr (own := own) (cls := cls) (sup := sup) (up := up) (ic := ic) hown' hcls hsup hup x0 x1 x2 x5 h hfX hkX hcellA (by rw [hhp, hT]; exact Nat.le_refl _) (msg := .ref sa) rfl
    (g := { method := m, pc := pc + 6, locals := ls, stack := .ref sa :: .ref T.heap.size :: .ref T.heap.size :: rest, locked := none }) rfl hsize rfl rfl (rest := rest) rfl
    (by rw [hb]; exact d6) (by rw [hb]; exact d9) hout hRframes (by simp only [List.map_cons, List.sum_cons, hcat]; show 0 + _ + _ ≤ R.locals; omega) hlocks
  obtain ⟨f1, f2⟩ := vx_frame hsame
  rw [hhp] at f1 f2
  have hWs : s.WarmedH U.vm := State.WarmedH.trans hW0 hW
  have hcl : s.vm.findClass cls = some ce.cls := by
    rw [hvm] at hfX
    rw [hcc]; exact hfX
  have hall : s.sameButNew ({ U with vm := s.vm } : State) locs mc ms := by
    subst hA
    obtain ⟨e1, e2⟩ := hsame
    rw [State.setFrames_setFrames] at e1
    have h2 : (T.setVm s.vm).sameButNew ({ U with vm := s.vm } : State) [] (0 + 1) (0 + 6) := ⟨e1, e2⟩
    have h3 := X.same.trans h2
    rw [List.append_nil] at h3
    exact h3.mono hc hs
  refine ⟨U, ?_, .threw T.heap.size, hrun, hend, Or.inr ⟨T.heap.size, rfl, cls, ce, locs, hx U hWs.alike f1 (fun q hq => f2 q hq (fun z hz => nomatch hz)), hce, hcv, hcl, hWs, hall, hf⟩⟩
  refine st1 _ ?_
  show Steps p.tables e below (T1.setTop { method := m, pc := pc + 3, locals := ls, stack := .ref T.heap.size :: rest, locked := none }) _
  jvm_step X₁.here [X₁.here.top, hexec, d3', Value.category]
  exact X₁.ldcString hexec (own := own) (text := text) (index := is) (a := sa) hown' hstr'.1 hstr'.2
    (g := { method := m, pc := pc + 4, locals := ls, stack := .ref T.heap.size :: .ref T.heap.size :: rest, locked := none }) rfl d4' _ hsteps
end NsThrow
