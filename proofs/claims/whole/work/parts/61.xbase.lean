/-! ===== methods that throw: what they need, their contract, the row of a throw ===== -/
/-- words that a warmed machine keeps though they aren't among the good ones -/
def isDecl : Cond → Bool
  | .declares _ => true
  | .castable _ _ => true
  | _ => false
def TWl : List Cond := lw_tbl.filter isDecl
theorem decl_tab {w : Cond} (h : isDecl w = true) : w.onTables = true := by cases w <;> first | rfl | cases h
theorem decl_warm {w : Cond} (hd : isDecl w = true) {s U : State} (hW : s.WarmedH U.vm) (h : w.before #[] s = true) : w.before #[] U = true := by
  cases w <;> first | exact va_tabs rfl (rfl : (s.setVm U.vm).vm = U.vm) (by rw [Cond.declares_setVm hW.alike]; exact h) | exact va_tabs rfl (rfl : (s.setVm U.vm).vm = U.vm) (by rw [Cond.castable_setVm hW.alike]; exact h) | cases hd
def strW : List (Nat × String) := [(72, "the text would have more than 3000 signs"), (95, "the input has 300 values"), (98, "there is no program"), (105, "the number of steps is not 0 .. 1000"), (108, "no program was started"), (113, "there is no such state"), (136, "there is no such output"), (142, "there is no such name"), (151, "there is no such cell"), (159, "no step begins there"), (171, "there is no such count")]
abbrev nISE : String := "java/lang/IllegalStateException"
abbrev nIAE : String := "java/lang/IllegalArgumentException"
abbrev nNSE : String := "java/util/NoSuchElementException"
abbrev nmsX : List String := ["java/lang/RuntimeException", "java/lang/Exception"]
def T9 (A : Nat → Prop) (U : State) : Prop := vx_Zq Bundle.tN "UNASSIGNED_STACK" Bundle.steD A U U.heap ∧ vx_Zq Bundle.tN "SUPPRESSED_SENTINEL" Bundle.listD A U U.heap ∧ (∀ q ∈ strW, ∃ sa, vk_R RX10 q.1 q.2 sa U) ∧ (∀ w ∈ TWl, w.before #[] U = true) ∧ va_Nc nISE nIAE U
theorem T9.calling {A : Nat → Prop} {U : State} {g : JFrame} {mk : MethodId} {a : Array Value} (h : T9 A U) : T9 A (U.calling g mk a) :=
  ⟨vx_Zq.moved (u := U) (U := U.calling g mk a) (Vm.Alike.refl U.vm) h.1, vx_Zq.moved (u := U) (U := U.calling g mk a) (Vm.Alike.refl U.vm) h.2.1,
    fun q hq => (h.2.2.1 q hq).imp fun sa hs => vk_R.same (u := U) (U := U.calling g mk a) rfl hs,
    fun w hw => va_tabs (decl_tab (List.mem_filter.mp hw).2) (u := U) (U := U.calling g mk a) rfl (h.2.2.2.1 w hw), va_Nc.moved (u := U) (U := U.calling g mk a) (Vm.Alike.refl U.vm) h.2.2.2.2⟩
/-- later in the same frame: the machine has moved on, the heap has kept what lies outside A -/
theorem T9.warm {A : Nat → Prop} {s U : State} (h : T9 A s) (hW : s.WarmedH U.vm) (hq : ∀ a : Nat, a < s.heap.size → ¬ A a → U.heap[a]? = s.heap[a]?) : T9 A U :=
  ⟨vx_Zq.moved hW.alike (vx_Zq.kept h.1 hq), vx_Zq.moved hW.alike (vx_Zq.kept h.2.1 hq), fun q hq => (h.2.2.1 q hq).imp fun sa hs => vk_R.warm hW hs, fun w hw => decl_warm (List.mem_filter.mp hw).2 hW (h.2.2.2.1 w hw), va_Nc.moved hW.alike h.2.2.2.2⟩
theorem T9.narrow {A B : Nat → Prop} {U : State} (h : T9 A U) (hAB : ∀ q, B q → A q) : T9 B U := ⟨vx_Zq.narrow h.1 hAB, vx_Zq.narrow h.2.1 hAB, h.2.2⟩
def gPreX (w : wlT) (n : Nat) (G : GG) (av : List Value) (σ : S9) : Array Value → State → Prop := va_Pc av (fun U => gK G U ∧ va_P G.1 vwCl (w G σ) U.heap ∧ T9 (gRg n G) U)
theorem gPreX.blind {w : wlT} {n : Nat} {G : GG} {av : List Value} {σ : S9} : FrameBlind (gPreX w n G av σ) := fun _ _ _ _ q => ⟨q.1, q.2.1.calling, q.2.2.1, q.2.2.2.calling⟩
def XCx (w : wlT) (n : Nat) (G : GG) (kl : List (String × Int32)) (Θ : Int32 → S9 → Prop) : String → State → State → Prop :=
  vx_X (S := S9) (fun _ => True) (fun E u t => (∃ k, (E, k) ∈ kl ∧ Θ k u) ∧ va_P G.1 vwCl (w G u) t.heap) (gRg n G)
def XI (w : wlT) (n : Nat) (G : GG) (l : Launch) (y : MethodName) (cb : ByteArray) (maxL : Nat) (ret : Option FieldType) (rm : Room) (av : List Value) (σ : S9) (Φ : Int32 → S9 → Prop) (kl : List (String × Int32)) (Θ : Int32 → S9 → Prop) : Prop :=
  vx_Met l y (.code y cb maxL ret :: UW) rm (gPreX w n G av σ) (va_Qi Φ (gB w G) (gRg n G)) (XCx w n G kl Θ) 1 6 (gRg n G)
def XV (w : wlT) (n : Nat) (G : GG) (l : Launch) (y : MethodName) (cb : ByteArray) (maxL : Nat) (rm : Room) (av : List Value) (σ : S9) (Φ : S9 → Prop) (kl : List (String × Int32)) (Θ : Int32 → S9 → Prop) : Prop :=
  vx_Met l y (.code y cb maxL none :: UW) rm (gPreX w n G av σ) (va_Qv Φ (gB w G) (gRg n G)) (XCx w n G kl Θ) 1 6 (gRg n G)
section XBase
variable {p : Program} {l : Launch} {e : Env} {R : Room} {s : State} {m : MethodId} {args : Array Value} {below : List Frame} {meth : Method} {c : Code} {H : Heap} {locs : List Loc} {cells slots : Nat} {Q : State → Prop} {cc : ByteArray} {pc : Nat} {ls : Array Slot} {rest : List Value} {w : wlT} {n : Nat} {G : GG} {σ : S9} {own : String} {kl : List (String × Int32)} {Θ : Int32 → S9 → Prop}
theorem XI.intro {y : MethodName} {cb : ByteArray} {maxL : Nat} {ret : Option FieldType} {rm : Room} {av : List Value} {Φ : Int32 → S9 → Prop} (hy : plainName y.cls = true) (hav : (lg_sl av).length ≤ maxL) (hJ : gJ n G)
    (body : ∀ p e s m args below meth c ls, Ev n G p s m args c cb y.cls → T9 (gRg n G) s → (∀ x ∈ c.exceptionTable.toList, False) → c.maxLocals = maxL → meth.sig.returnType = ret → meth.locks = false → Pic w n G σ s.heap s.heap [] → lv_has ls maxL (lv_args 0 av) → W p l e rm s m args below meth c s.heap [] 0 0 (vx_MQ below (va_Qi Φ (gB w G) (gRg n G)) (XCx w n G kl Θ) args s 1 6 (gRg n G)) (F0 m 0 ls [])) : XI w n G l y cb maxL ret rm av σ Φ kl Θ := by
  refine vx_ofW (cc := cb) (maxL := maxL) (ret := ret) hy rfl ?_
  intro p e s m args below meth c s₁ B hml hx0 hv
  obtain ⟨rfl, hK, hP, hT⟩ := hv
  rw [lg_entry_eq]
  exact body p e s m _ below meth c _ ⟨B.exec, B.bytes, findClass_of_methodNamed B.named, fun w hw => atoms_spec (ws := .code y cb maxL ret :: UW) B.pre w (List.mem_cons_of_mem _ hw), hK, hJ⟩ hT hx0 hml B.returns B.notSynchronized ⟨hP, va_S.rf⟩ (lv_entry av hav)
theorem XV.intro {y : MethodName} {cb : ByteArray} {maxL : Nat} {rm : Room} {av : List Value} {Φ : S9 → Prop} (hy : plainName y.cls = true) (hav : (lg_sl av).length ≤ maxL) (hJ : gJ n G)
    (body : ∀ p e s m args below meth c ls, Ev n G p s m args c cb y.cls → T9 (gRg n G) s → (∀ x ∈ c.exceptionTable.toList, False) → c.maxLocals = maxL → meth.sig.returnType = none → meth.locks = false → Pic w n G σ s.heap s.heap [] → lv_has ls maxL (lv_args 0 av) → W p l e rm s m args below meth c s.heap [] 0 0 (vx_MQ below (va_Qv Φ (gB w G) (gRg n G)) (XCx w n G kl Θ) args s 1 6 (gRg n G)) (F0 m 0 ls [])) : XV w n G l y cb maxL rm av σ Φ kl Θ := by
  refine vx_ofW (cc := cb) (maxL := maxL) (ret := none) hy rfl ?_
  intro p e s m args below meth c s₁ B hml hx0 hv
  obtain ⟨rfl, hK, hP, hT⟩ := hv
  rw [lg_entry_eq]
  exact body p e s m _ below meth c _ ⟨B.exec, B.bytes, findClass_of_methodNamed B.named, fun w hw => atoms_spec (ws := .code y cb maxL none :: UW) B.pre w (List.mem_cons_of_mem _ hw), hK, hJ⟩ hT hx0 hml B.returns B.notSynchronized ⟨hP, va_S.rf⟩ (lv_entry av hav)
theorem rtIX {Φ : Int32 → S9 → Prop} {v : Int32} (hE : Ev n G p s m args c cc own) (hr : meth.sig.returnType = some .int) (hlocks : meth.locks = false) (hw : Pic w n G σ s.heap H locs) (hq : Φ v σ) (hdg : decode cc pc = .ok (.ireturn, 1)) : W p l e R s m args below meth c H locs 0 0 (vx_MQ below (va_Qi Φ (gB w G) (gRg n G)) (XCx w n G kl Θ) args s 1 6 (gRg n G)) (F0 m pc ls [.int v]) :=
  vx_ret (W.widen (Nat.zero_le 1) (Nat.zero_le 6) (W.iret (v := v) hE.1 hE.2.1 hr (fun t ht _ => ⟨⟨v, σ, rfl, hq, by show va_P _ _ _ t.heap; rw [ht]; exact hw.1⟩, hw.2.F ht⟩) hw.2.2.2 hdg))
theorem rtVX {Φ : S9 → Prop} (hE : Ev n G p s m args c cc own) (hr : meth.sig.returnType = none) (hlocks : meth.locks = false) (hw : Pic w n G σ s.heap H locs) (hq : Φ σ) (hdg : decode cc pc = .ok (.return_, 1)) : W p l e R s m args below meth c H locs 0 0 (vx_MQ below (va_Qv Φ (gB w G) (gRg n G)) (XCx w n G kl Θ) args s 1 6 (gRg n G)) (F0 m pc ls []) :=
  vx_ret (W.widen (Nat.zero_le 1) (Nat.zero_le 6) (W.vret hE.1 hE.2.1 hr (fun t ht _ => ⟨⟨σ, rfl, hq, by show va_P _ _ _ t.heap; rw [ht]; exact hw.1⟩, hw.2.F ht⟩) hw.2.2.2 hdg))
/-- the words of one throw are in the tables, each a good one or one that the tables alone decide -/
def WKx (ik ic : Nat) (cls : String) : Prop := ∀ x ∈ Cond.classLink RX10 ik cls :: Cond.initialized cls :: vx_atS RX10 ic cls nmsX, x ∈ lw_tbl ∧ vx_ot x = true ∧ (goodWord x || isDecl x) = true
theorem WKx.of {ik ic : Nat} {cls : String} (h : (Cond.classLink RX10 ik cls :: Cond.initialized cls :: vx_atS RX10 ic cls nmsX).all (fun x => lw_tbl.contains x && (vx_ot x && (goodWord x || isDecl x))) = true) : WKx ik ic cls := by
  intro x hx
  have := List.all_eq_true.mp h x hx
  rw [Bool.and_eq_true, Bool.and_eq_true] at this
  exact ⟨List.contains_iff_mem.mp this.1, this.2.1, this.2.2⟩
theorem thr {Qc : Array Value → State → Outcome → State → Prop} {cls text : String} {ik is ic nL : Nat} {k : Int32} (hE : Ev n G p s m args c cc RX10) (hT : T9 (gRg n G) s) (hst : l.stackTraces = false) (hx0 : ∀ x ∈ c.exceptionTable.toList, False) (hw : Pic w n G σ s.heap H locs) (hwk : WKx ik ic cls) (hs : (is, text) ∈ strW) (hc : Bundle.fit cls = true) (hn : ∀ n ∈ nmsX, Bundle.fit n = true) (hk : (cls, k) ∈ kl) (hq : Θ k σ) (hml : c.maxLocals = nL) (hsize : ls.size = nL)
    (d0 : decode cc pc = .ok (.new ik, 3)) (d3 : decode cc (pc + 3) = .ok (.dup, 1)) (d4 : decode cc (pc + 4) = .ok (.ldc is, 2)) (d6 : decode cc (pc + 6) = .ok (.invokespecial ic, 3)) (d9 : decode cc (pc + 9) = .ok (.athrow, 1)) (hR : 5 < R.frames ∧ 82 ≤ R.locals ∧ 1 ≤ R.cells ∧ 6 ≤ R.slots) (hlocks : meth.locks = false) :
    W p l e R s m args below meth c H locs 0 0 (vx_MQ below Qc (XCx w n G kl Θ) args s 1 6 (gRg n G)) (F0 m pc ls []) := by
  obtain ⟨sa, hsa⟩ := hT.2.2.1 _ hs
  have hword : ∀ x ∈ Cond.classLink RX10 ik cls :: Cond.initialized cls :: vx_atS RX10 ic cls nmsX, x.before args s = true := by
    intro x hx
    obtain ⟨h1, -, h2⟩ := hwk x hx
    rw [Bool.or_eq_true] at h2
    rcases h2 with hg | ho
    · exact hE.2.2.2.1 x (List.mem_filter.mpr ⟨h1, hg⟩)
    · exact va_tabs (decl_tab ho) rfl (hT.2.2.2.1 x (List.mem_filter.mpr ⟨h1, ho⟩))
  refine vx_throwS (own := RX10) (cls := cls) (text := text) (names := nmsX) (ik := ik) (is := is) (ic := ic) (sa := sa) (A := gRg n G) hE.1 hE.2.1 hst hE.2.2.1 hc hn
    (hword _ List.mem_cons_self) (hword _ (List.mem_cons_of_mem _ List.mem_cons_self)) hsa (fun x hx => hword x (List.mem_cons_of_mem _ (List.mem_cons_of_mem _ hx))) (fun x hx => (hwk x hx).2.1)
    hT.1 hT.2.1 hw.2 (hsize.trans hml.symm) d0 d3 d4 d6 d9 (fun x hx => (hx0 x hx).elim) hR.1 (by show (0 + (13 * (2 + 1) + 43)) ≤ R.locals; omega) (by omega) (by omega) hlocks ?_ hw.2.2.2 (by omega) (by omega)
  intro t ht h1 h2
  refine ⟨σ, trivial, ⟨⟨k, hk, hq⟩, hw.1.kept fun j q hj => h2 q.1 (hw.1 j q hj).lt⟩, Nat.le_trans hw.2.1 h1, fun q hq1 hq2 => ?_⟩
  rw [h2 q (Nat.lt_of_lt_of_le hq1 hw.2.1)]
  exact hw.2.2.1 q hq1 hq2
def WKn (ik ic : Nat) (cls sup : String) (ix : Nat) (rx : ByteArray) (up : List String) : Prop := ∀ x ∈ Cond.classLink RX10 ik cls :: Cond.initialized cls :: nsAt RX10 ic cls sup ix rx up, x ∈ lw_tbl ∧ vx_ot x = true ∧ (goodWord x || isDecl x) = true
theorem WKn.of {ik ic ix : Nat} {cls sup : String} {rx : ByteArray} {up : List String} (h : (Cond.classLink RX10 ik cls :: Cond.initialized cls :: nsAt RX10 ic cls sup ix rx up).all (fun x => lw_tbl.contains x && (vx_ot x && (goodWord x || isDecl x))) = true) : WKn ik ic cls sup ix rx up := by
  intro x hx
  have := List.all_eq_true.mp h x hx
  rw [Bool.and_eq_true, Bool.and_eq_true] at this
  exact ⟨List.contains_iff_mem.mp this.1, this.2.1, this.2.2⟩
theorem thrN {Qc : Array Value → State → Outcome → State → Prop} {cls sup text : String} {rx : ByteArray} {ik is ic ix nL : Nat} {k : Int32} (hE : Ev n G p s m args c cc RX10) (hT : T9 (gRg n G) s) (hst : l.stackTraces = false) (hx0 : ∀ x ∈ c.exceptionTable.toList, False) (hw : Pic w n G σ s.heap H locs) (hwk : WKn ik ic cls sup ix rx ["java/lang/Exception"]) (hs : (is, text) ∈ strW) (hc : Bundle.fit cls = true ∧ Bundle.fit sup = true ∧ ∀ n ∈ ["java/lang/Exception"], Bundle.fit n = true)
    (hrx : decode rx 0 = .ok (.aload_n 0, 1) ∧ decode rx 1 = .ok (.aload_n 1, 1) ∧ decode rx 2 = .ok (.invokespecial ix, 3) ∧ decode rx 5 = .ok (.return_, 1)) (hk : (cls, k) ∈ kl) (hq : Θ k σ) (hml : c.maxLocals = nL) (hsize : ls.size = nL)
    (d0 : decode cc pc = .ok (.new ik, 3)) (d3 : decode cc (pc + 3) = .ok (.dup, 1)) (d4 : decode cc (pc + 4) = .ok (.ldc is, 2)) (d6 : decode cc (pc + 6) = .ok (.invokespecial ic, 3)) (d9 : decode cc (pc + 9) = .ok (.athrow, 1)) (hR : 5 < R.frames ∧ 82 ≤ R.locals ∧ 1 ≤ R.cells ∧ 6 ≤ R.slots) (hlocks : meth.locks = false) :
    W p l e R s m args below meth c H locs 0 0 (vx_MQ below Qc (XCx w n G kl Θ) args s 1 6 (gRg n G)) (F0 m pc ls []) := by
  obtain ⟨sa, hsa⟩ := hT.2.2.1 _ hs
  have hword : ∀ x ∈ Cond.classLink RX10 ik cls :: Cond.initialized cls :: nsAt RX10 ic cls sup ix rx ["java/lang/Exception"], x.before args s = true := by
    intro x hx
    obtain ⟨h1, -, h2⟩ := hwk x hx
    rw [Bool.or_eq_true] at h2
    rcases h2 with hg | ho
    · exact hE.2.2.2.1 x (List.mem_filter.mpr ⟨h1, hg⟩)
    · exact va_tabs (decl_tab ho) rfl (hT.2.2.2.1 x (List.mem_filter.mpr ⟨h1, ho⟩))
  refine ns_throw (own := RX10) (cls := cls) (sup := sup) (text := text) (up := ["java/lang/Exception"]) (rx := rx) (ik := ik) (is := is) (ic := ic) (ix := ix) (sa := sa) (A := gRg n G) hE.1 hE.2.1 hst hE.2.2.1 hc.1 hc.2.1 hc.2.2 hrx.1 hrx.2.1 hrx.2.2.1 hrx.2.2.2
    (hword _ List.mem_cons_self) (hword _ (List.mem_cons_of_mem _ List.mem_cons_self)) hsa (fun x hx => hword x (List.mem_cons_of_mem _ (List.mem_cons_of_mem _ hx))) (fun x hx => (hwk x hx).2.1)
    hT.1 hT.2.1 hw.2 (hsize.trans hml.symm) d0 d3 d4 d6 d9 (fun x hx => (hx0 x hx).elim) hR.1 (by show (0 + (13 * (1 + 2) + 43)) ≤ R.locals; omega) (by omega) (by omega) hlocks ?_ hw.2.2.2 (by omega) (by omega)
  intro t ht h1 h2
  refine ⟨σ, trivial, ⟨⟨k, hk, hq⟩, hw.1.kept fun j q hj => h2 q.1 (hw.1 j q hj).lt⟩, Nat.le_trans hw.2.1 h1, fun q hq1 hq2 => ?_⟩
  rw [h2 q (Nat.lt_of_lt_of_le hq1 hw.2.1)]
  exact hw.2.2.1 q hq1 hq2
end XBase
set_option maxRecDepth 20000 in
theorem wk_ISE : WKx 70 74 nISE := WKx.of (by decide +kernel)
set_option maxRecDepth 20000 in
theorem wk_IAE : WKx 103 107 nIAE := WKx.of (by decide +kernel)
set_option maxRecDepth 20000 in
theorem wk_NSE : WKn 134 138 nNSE "java/lang/RuntimeException" 13 prog_21_method_4_code ["java/lang/Exception"] := WKn.of (by decide +kernel)
theorem rx_NSE : decode prog_21_method_4_code 0 = .ok (.aload_n 0, 1) ∧ decode prog_21_method_4_code 1 = .ok (.aload_n 1, 1) ∧ decode prog_21_method_4_code 2 = .ok (.invokespecial 13, 3) ∧ decode prog_21_method_4_code 5 = .ok (.return_, 1) := ⟨by decide +kernel, by decide +kernel, by decide +kernel, by decide +kernel⟩
theorem inTW {w : Cond} (i : Nat) (h : lw_tbl[i]? = some w) (hg : isDecl w = true) : w ∈ TWl := List.mem_filter.mpr ⟨List.mem_of_getElem? h, hg⟩
theorem T9.cast {A : Nat → Prop} {U : State} {w : Cond} {args : Array Value} (h : T9 A U) (hw : w ∈ TWl) : w.before args U = true := va_tabs (decl_tab (List.mem_filter.mp hw).2) rfl (h.2.2.2.1 w hw)
