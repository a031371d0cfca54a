/-! ===== base of the walks: one state type, worlds of fixed layout, contracts by predicate ===== -/
/-- the words of the tables that stay -/
def UW : List Cond := lw_tbl.filter goodWord
theorem inUW {w : Cond} (i : Nat) (h : lw_tbl[i]? = some w) (hg : goodWord w = true) : w ∈ UW := List.mem_filter.mpr ⟨List.mem_of_getElem? h, hg⟩
theorem inUWl {ws : List Cond} (ps : List Nat) (hp : ws = ps.filterMap (fun i => lw_tbl[i]?)) (hg : ws.all goodWord = true) : ∀ w ∈ ws, w ∈ UW := by
  intro w hw
  have h1 := List.all_eq_true.mp hg w hw
  rw [hp] at hw
  obtain ⟨i, -, hi⟩ := List.mem_filterMap.mp hw
  exact inUW i hi h1
theorem goodUW {y : Cond} (hy : y ∈ UW) : GoodIn UW (y :: UW) := by
  intro w hw
  rcases List.mem_cons.mp hw with h | h
  · subst h; exact ⟨hy, good_of_word (List.mem_filter.mp hy).2⟩
  · exact ⟨h, good_of_word (List.mem_filter.mp h).2⟩
/-- a state: the scalars (ints, chars, booleans), the arrays, one long -/
abbrev S9 : Type := (Nat → Int32) × (Nat → Nat → Int32) × Int64
def sF (σ : S9) (k : Nat) (v : Int32) : S9 := (upd σ.1 k v, σ.2.1, σ.2.2)
def sA (σ : S9) (k : Nat) (f : Nat → Int32) : S9 := (σ.1, va_up σ.2.1 k f, σ.2.2)
def sL (σ : S9) (x : Int64) : S9 := (σ.1, σ.2.1, x)
/-- where things lie: classes and slots, the three array classes, the addresses -/
abbrev GG : Type := va_G × ClassId × ClassId × ClassId × (Nat → Nat)
def gAd (G : GG) : Nat → Nat := G.2.2.2.2
def isNest : Cond → Bool
  | .fieldLinkNest _ _ _ _ _ _ => true
  | .methodLinkNest _ _ _ _ => true
  | _ => false
theorem nest_warm {w : Cond} (hn : isNest w = true) {s U : State} (hW : s.WarmedH U.vm) (h : va_Nw w s) : va_Nw w U := by
  cases w <;> first | exact va_Nw.warmF hW h | exact va_Nw.warmM hW h | cases hn
theorem nest_same {w : Cond} (hn : isNest w = true) {s U : State} (hv : s.vm = U.vm) (h : va_Nw w s) : va_Nw w U := by
  cases w <;> first | exact va_Nw.same rfl hv h | cases hn
theorem nest_use {w : Cond} (hn : isNest w = true) {A : Array Value} {U : State} (h : va_Nw w U) : w.before A U = true := by
  cases w <;> first | exact va_Nw.use rfl h | cases hn
abbrev gTy (G : GG) : List (ClassId × FieldType) := [(G.2.1, .int), (G.2.2.1, .char), (G.2.2.2.1, .boolean)]
def gK (G : GG) (U : State) : Prop := va_K G.1 vwCl (gTy G) U ∧ ∀ w ∈ nestW, va_Nw w U
theorem nestAll : nestW.all isNest = true := by decide +kernel
theorem gK.warm {G : GG} {s U : State} (hW : s.WarmedH U.vm) (h : gK G s) : gK G U := ⟨va_K.moved hW.alike h.1, fun w hw => nest_warm (List.all_eq_true.mp nestAll w hw) hW (h.2 w hw)⟩
theorem gK.calling {G : GG} {U : State} {g : JFrame} {mk : MethodId} {a : Array Value} (h : gK G U) : gK G (U.calling g mk a) := ⟨va_K.moved (u := U) (U := U.calling g mk a) (Vm.Alike.refl U.vm) h.1, fun w hw => nest_same (s := U) (U := U.calling g mk a) (List.all_eq_true.mp nestAll w hw) rfl (h.2 w hw)⟩
def gRg (n : Nat) (G : GG) : Nat → Prop := fun q => ∃ i, i < n ∧ q = gAd G i
def gJ (n : Nat) (G : GG) : Prop := ∀ i j, i < n → j < n → gAd G i = gAd G j → i = j
theorem wD_of {ws : va_W} {n : Nat} {G : GG} (h : ws.map Prod.fst = (List.range n).map (gAd G)) (hJ : gJ n G) : va_D (gRg n G) ws := by
  have hl : ws.length = n := by have := congrArg List.length h; simpa using this
  have at1 : ∀ (k : Nat) (q : Nat × va_E), ws[k]? = some q → k < n ∧ q.1 = gAd G k := by
    intro k q hq
    have hk : k < ws.length := (List.getElem?_eq_some_iff.mp hq).1
    have h2 := congrArg (fun l => l[k]?) h
    simp only [List.getElem?_map, hq, Option.map_some] at h2
    rw [List.getElem?_range (by omega)] at h2
    exact ⟨by omega, Option.some.inj h2⟩
  refine ⟨fun i j p q hi hj e => ?_, fun k q hq => ?_⟩
  · obtain ⟨a1, a2⟩ := at1 i p hi
    obtain ⟨b1, b2⟩ := at1 j q hj
    exact hJ i j a1 b1 (by rw [← a2, ← b2, e])
  · obtain ⟨a1, a2⟩ := at1 k q hq
    exact ⟨k, a1, a2⟩
abbrev wlT : Type := GG → S9 → va_W
/-- what holds of a method's frame all along -/
def Ev (n : Nat) (G : GG) (p : Program) (s : State) (m : MethodId) (args : Array Value) (c : Code) (cc : ByteArray) (own : String) : Prop :=
  p.tables.exec = Jvm.exec ∧ c.code = cc ∧ s.vm.findClass own = some m.cls ∧ (∀ w ∈ UW, w.before args s = true) ∧ gK G s ∧ gJ n G
/-- the heap holds the state -/
def Pic (w : wlT) (n : Nat) (G : GG) (σ : S9) (H0 H : Heap) (locs : List Loc) : Prop := va_P G.1 vwCl (w G σ) H ∧ va_S (gRg n G) H0 H locs
def gPre (w : wlT) (G : GG) (av : List Value) (σ : S9) : Array Value → State → Prop := va_Pc av (fun U => gK G U ∧ va_P G.1 vwCl (w G σ) U.heap)
theorem gPre.blind {w : wlT} {G : GG} {av : List Value} {σ : S9} : FrameBlind (gPre w G av σ) := fun _ _ _ _ q => ⟨q.1, q.2.1.calling, q.2.2⟩
abbrev gB (w : wlT) (G : GG) : S9 → State → Prop := fun σ' t => va_P G.1 vwCl (w G σ') t.heap
def CI (w : wlT) (n : Nat) (G : GG) (l : Launch) (y : MethodName) (cb : ByteArray) (maxL : Nat) (ret : Option FieldType) (rm : Room) (av : List Value) (σ : S9) (Φ : Int32 → S9 → Prop) : Prop :=
  Met l y (.code y cb maxL ret :: UW) rm (gPre w G av σ) (va_Qi Φ (gB w G) (gRg n G)) 0 0 (gRg n G)
def CV (w : wlT) (n : Nat) (G : GG) (l : Launch) (y : MethodName) (cb : ByteArray) (maxL : Nat) (rm : Room) (av : List Value) (σ : S9) (Φ : S9 → Prop) : Prop :=
  Met l y (.code y cb maxL none :: UW) rm (gPre w G av σ) (va_Qv Φ (gB w G) (gRg n G)) 0 0 (gRg n G)
def QI (w : wlT) (n : Nat) (G : GG) (below : List Frame) (args : Array Value) (s : State) (Φ : Int32 → S9 → Prop) : State → Prop := MQ below (va_Qi Φ (gB w G) (gRg n G)) args s 0 0 (gRg n G)
def QV (w : wlT) (n : Nat) (G : GG) (below : List Frame) (args : Array Value) (s : State) (Φ : S9 → Prop) : State → Prop := MQ below (va_Qv Φ (gB w G) (gRg n G)) args s 0 0 (gRg n G)
section BaseA
variable {p : Program} {l : Launch} {e : Env} {R : Room} {s : State} {m : MethodId} {args : Array Value} {below : List Frame} {meth : Method} {c : Code} {H : Heap} {locs : List Loc} {cells slots : Nat} {Q : State → Prop} {cc : ByteArray} {pc : Nat} {ls : Array Slot} {rest : List Value} {w : wlT} {n : Nat} {G : GG} {σ : S9} {own : String}
theorem CI.intro {y : MethodName} {cb : ByteArray} {maxL : Nat} {ret : Option FieldType} {rm : Room} {av : List Value} {Φ : Int32 → S9 → Prop} (hy : plainName y.cls = true) (hav : (lg_sl av).length ≤ maxL) (hJ : gJ n G)
    (body : ∀ p e s m args below meth c ls, Ev n G p s m args c cb y.cls → c.maxLocals = maxL → meth.sig.returnType = ret → meth.locks = false → Pic w n G σ s.heap s.heap [] → lv_has ls maxL (lv_args 0 av) → W p l e rm s m args below meth c s.heap [] 0 0 (QI w n G below args s Φ) (F0 m 0 ls [])) : CI w n G l y cb maxL ret rm av σ Φ := by
  refine Met.ofW (cc := cb) (maxL := maxL) (ret := ret) hy rfl ?_
  intro p e s m args below meth c s₁ B hml hv
  obtain ⟨rfl, hK, hP⟩ := hv
  rw [lg_entry_eq]
  exact body p e s m _ below meth c _ ⟨B.exec, B.bytes, findClass_of_methodNamed B.named, fun w hw => atoms_spec (ws := .code y cb maxL ret :: UW) B.pre w (List.mem_cons_of_mem _ hw), hK, hJ⟩ hml B.returns B.notSynchronized ⟨hP, va_S.rf⟩ (lv_entry av hav)
theorem CV.intro {y : MethodName} {cb : ByteArray} {maxL : Nat} {rm : Room} {av : List Value} {Φ : S9 → Prop} (hy : plainName y.cls = true) (hav : (lg_sl av).length ≤ maxL) (hJ : gJ n G)
    (body : ∀ p e s m args below meth c ls, Ev n G p s m args c cb y.cls → c.maxLocals = maxL → meth.sig.returnType = none → meth.locks = false → Pic w n G σ s.heap s.heap [] → lv_has ls maxL (lv_args 0 av) → W p l e rm s m args below meth c s.heap [] 0 0 (QV w n G below args s Φ) (F0 m 0 ls [])) : CV w n G l y cb maxL rm av σ Φ := by
  refine Met.ofW (cc := cb) (maxL := maxL) (ret := none) hy rfl ?_
  intro p e s m args below meth c s₁ B hml hv
  obtain ⟨rfl, hK, hP⟩ := hv
  rw [lg_entry_eq]
  exact body p e s m _ below meth c _ ⟨B.exec, B.bytes, findClass_of_methodNamed B.named, fun w hw => atoms_spec (ws := .code y cb maxL none :: UW) B.pre w (List.mem_cons_of_mem _ hw), hK, hJ⟩ hml B.returns B.notSynchronized ⟨hP, va_S.rf⟩ (lv_entry av hav)
theorem rtI {Φ : Int32 → S9 → Prop} {v : Int32} (hE : Ev n G p s m args c cc own) (hr : meth.sig.returnType = some .int) (hlocks : meth.locks = false) (hw : Pic w n G σ s.heap H locs) (hq : Φ v σ) (hdg : decode cc pc = .ok (.ireturn, 1)) : W p l e R s m args below meth c H locs 0 0 (QI w n G below args s Φ) (F0 m pc ls [.int v]) :=
  W.iret (v := v) hE.1 hE.2.1 hr (fun t ht _ => ⟨⟨v, σ, rfl, hq, by show va_P _ _ _ t.heap; rw [ht]; exact hw.1⟩, hw.2.F ht⟩) hw.2.2.2 hdg
theorem rtZ {Φ : Int32 → S9 → Prop} {v : Int32} {ty : FieldType} (hE : Ev n G p s m args c cc own) (hr : meth.sig.returnType = some ty) (hlocks : meth.locks = false) (hn : narrow ty (.int v) = .int v) (hw : Pic w n G σ s.heap H locs) (hq : Φ v σ) (hdg : decode cc pc = .ok (.ireturn, 1)) : W p l e R s m args below meth c H locs 0 0 (QI w n G below args s Φ) (F0 m pc ls [.int v]) :=
  W.zret (v := v) hE.1 hE.2.1 hr hn (fun t ht _ => ⟨⟨v, σ, rfl, hq, by show va_P _ _ _ t.heap; rw [ht]; exact hw.1⟩, hw.2.F ht⟩) hw.2.2.2 hdg
theorem rtV {Φ : S9 → Prop} (hE : Ev n G p s m args c cc own) (hr : meth.sig.returnType = none) (hlocks : meth.locks = false) (hw : Pic w n G σ s.heap H locs) (hq : Φ σ) (hdg : decode cc pc = .ok (.return_, 1)) : W p l e R s m args below meth c H locs 0 0 (QV w n G below args s Φ) (F0 m pc ls []) :=
  W.vret hE.1 hE.2.1 hr (fun t ht _ => ⟨⟨σ, rfl, hq, by show va_P _ _ _ t.heap; rw [ht]; exact hw.1⟩, hw.2.F ht⟩) hw.2.2.2 hdg
section BaseC
variable {y : MethodName} {cb : ByteArray} {maxL nL k index ci q0 b : Nat} {ret : Option FieldType} {rm : Room} {As : List Value} {C : String} {T : u_T} {N : Nat} {fs : List Value} {st0 : List Value}
abbrev yOk (y : MethodName) (k : Nat) : Prop := y.cls ≠ "java/lang/invoke/MethodHandle" ∧ y.cls ≠ "java/lang/invoke/VarHandle" ∧ (parseMethodDescriptor y.desc).map (fun d => d.parameters.length) = some k
abbrev rmOk (rm R : Room) (maxL : Nat) : Prop := rm.cells = 0 ∧ rm.slots = 0 ∧ rm.frames + 1 ≤ R.frames ∧ 8 + (maxL + 11) + rm.locals ≤ R.locals
theorem clVi {Φ : Int32 → S9 → Prop} (hE : Ev n G p s m args c cc own) (hml : c.maxLocals = nL) (hsize : ls.size = nL) (hw : Pic w n G σ s.heap H locs) (hM : CI w n G l y cb maxL ret rm (.ref b :: As) σ Φ)
    (hc : Cond.code y cb maxL ret ∈ UW) (hl : Cond.methodLink own index y ∈ UW) (hi : Cond.instanceMethod y ∈ UW) (hs : Cond.selects C y y ∈ UW) (hini : Cond.initialized C ∈ UW) (hC : y.cls = C) (hy : yOk y k) (hR : rmOk rm R maxL) (hcl : vwCl[ci]? = some (C, T, N)) (he : (w G σ)[q0]? = some (b, .inr (ci, fs)))
    (hn : As.length = k) (hstk : st0 = As.reverse ++ .ref b :: rest) (hrs : (rest.map fun v => v.category).sum ≤ 8) (hdg : decode cc pc = .ok (.invokevirtual index, 3)) (hcs : cells ≤ R.cells ∧ slots ≤ R.slots)
    (kk : ∀ (r : Int32) (σ1 : S9), Φ r σ1 → ∀ (H1 : Heap) (locs1 : List Loc), Pic w n G σ1 s.heap H1 locs1 → W p l e R s m args below meth c H1 locs1 cells slots Q (F0 m (pc + 3) ls (.int r :: rest))) : W p l e R s m args below meth c H locs cells slots Q (F0 m pc ls st0) := by
  obtain ⟨hx, hb, hown, hU, hK, hJ⟩ := hE
  subst hC
  refine va_calli (va_runV (nL := nL) (As := As) (rest := rest) ⟨hx, hb, hml, hown, hU⟩ hM ⟨callB_of k hU (goodUW hc) rfl hR.1 hR.2.1 (hU _ hini) (hU _ hl) hy hR.2.2, hU _ hi, hU _ hs⟩ ⟨gPre.blind, va_recv hK.1 hw.1 hcl he, fun U hU1 hW => ⟨rfl, hK.warm hW, by rw [hU1]; exact hw.1⟩⟩ rfl hn hsize hstk (lv_room hrs) hdg hcs) hw.2 (fun q _ h => h) (fun q h => h) (fun r σ1 t H1 locs1 ht hvm hp hB hz hk hS => ?_)
  exact kk r σ1 hp H1 locs1 ⟨by rw [← ht]; exact hB, hS⟩
theorem clVv {Φ : S9 → Prop} (hE : Ev n G p s m args c cc own) (hml : c.maxLocals = nL) (hsize : ls.size = nL) (hw : Pic w n G σ s.heap H locs) (hM : CV w n G l y cb maxL rm (.ref b :: As) σ Φ)
    (hc : Cond.code y cb maxL none ∈ UW) (hl : Cond.methodLink own index y ∈ UW) (hi : Cond.instanceMethod y ∈ UW) (hs : Cond.selects C y y ∈ UW) (hini : Cond.initialized C ∈ UW) (hC : y.cls = C) (hy : yOk y k) (hR : rmOk rm R maxL) (hcl : vwCl[ci]? = some (C, T, N)) (he : (w G σ)[q0]? = some (b, .inr (ci, fs)))
    (hn : As.length = k) (hstk : st0 = As.reverse ++ .ref b :: rest) (hrs : (rest.map fun v => v.category).sum ≤ 8) (hdg : decode cc pc = .ok (.invokevirtual index, 3)) (hcs : cells ≤ R.cells ∧ slots ≤ R.slots)
    (kk : ∀ (σ1 : S9), Φ σ1 → ∀ (H1 : Heap) (locs1 : List Loc), Pic w n G σ1 s.heap H1 locs1 → W p l e R s m args below meth c H1 locs1 cells slots Q (F0 m (pc + 3) ls rest)) : W p l e R s m args below meth c H locs cells slots Q (F0 m pc ls st0) := by
  obtain ⟨hx, hb, hown, hU, hK, hJ⟩ := hE
  subst hC
  refine va_callv (va_runV (nL := nL) (As := As) (rest := rest) ⟨hx, hb, hml, hown, hU⟩ hM ⟨callB_of k hU (goodUW hc) rfl hR.1 hR.2.1 (hU _ hini) (hU _ hl) hy hR.2.2, hU _ hi, hU _ hs⟩ ⟨gPre.blind, va_recv hK.1 hw.1 hcl he, fun U hU1 hW => ⟨rfl, hK.warm hW, by rw [hU1]; exact hw.1⟩⟩ rfl hn hsize hstk (lv_room hrs) hdg hcs) hw.2 (fun q _ h => h) (fun q h => h) (fun σ1 t H1 locs1 ht hvm hp hB hz hk hS => ?_)
  exact kk σ1 hp H1 locs1 ⟨by rw [← ht]; exact hB, hS⟩
theorem clSi {Φ : Int32 → S9 → Prop} (hE : Ev n G p s m args c cc own) (hml : c.maxLocals = nL) (hsize : ls.size = nL) (hw : Pic w n G σ s.heap H locs) (hM : CI w n G l y cb maxL ret rm As σ Φ)
    (hc : Cond.code y cb maxL ret ∈ UW) (hl : Cond.methodLink own index y ∈ UW) (hst : Cond.static y ∈ UW) (hini : Cond.initialized y.cls ∈ UW) (hy : yOk y k) (hR : rmOk rm R maxL)
    (hn : As.length = k) (hstk : st0 = As.reverse ++ rest) (hrs : (rest.map fun v => v.category).sum ≤ 8) (hdg : decode cc pc = .ok (.invokestatic index, 3)) (hcs : cells ≤ R.cells ∧ slots ≤ R.slots)
    (kk : ∀ (r : Int32) (σ1 : S9), Φ r σ1 → ∀ (H1 : Heap) (locs1 : List Loc), Pic w n G σ1 s.heap H1 locs1 → W p l e R s m args below meth c H1 locs1 cells slots Q (F0 m (pc + 3) ls (.int r :: rest))) : W p l e R s m args below meth c H locs cells slots Q (F0 m pc ls st0) := by
  obtain ⟨hx, hb, hown, hU, hK, hJ⟩ := hE
  refine va_calli (va_runS (nL := nL) (As := As) (rest := rest) ⟨hx, hb, hml, hown, hU⟩ hM ⟨callB_of k hU (goodUW hc) rfl hR.1 hR.2.1 (hU _ hini) (hU _ hl) hy hR.2.2, hU _ hst⟩ ⟨gPre.blind, fun U hU1 hW => ⟨rfl, hK.warm hW, by rw [hU1]; exact hw.1⟩⟩ rfl hn hsize hstk (lv_room hrs) hdg hcs) hw.2 (fun q _ h => h) (fun q h => h) (fun r σ1 t H1 locs1 ht hvm hp hB hz hk hS => ?_)
  exact kk r σ1 hp H1 locs1 ⟨by rw [← ht]; exact hB, hS⟩
theorem clSv {Φ : S9 → Prop} (hE : Ev n G p s m args c cc own) (hml : c.maxLocals = nL) (hsize : ls.size = nL) (hw : Pic w n G σ s.heap H locs) (hM : CV w n G l y cb maxL rm As σ Φ)
    (hc : Cond.code y cb maxL none ∈ UW) (hl : Cond.methodLink own index y ∈ UW) (hst : Cond.static y ∈ UW) (hini : Cond.initialized y.cls ∈ UW) (hy : yOk y k) (hR : rmOk rm R maxL)
    (hn : As.length = k) (hstk : st0 = As.reverse ++ rest) (hrs : (rest.map fun v => v.category).sum ≤ 8) (hdg : decode cc pc = .ok (.invokestatic index, 3)) (hcs : cells ≤ R.cells ∧ slots ≤ R.slots)
    (kk : ∀ (σ1 : S9), Φ σ1 → ∀ (H1 : Heap) (locs1 : List Loc), Pic w n G σ1 s.heap H1 locs1 → W p l e R s m args below meth c H1 locs1 cells slots Q (F0 m (pc + 3) ls rest)) : W p l e R s m args below meth c H locs cells slots Q (F0 m pc ls st0) := by
  obtain ⟨hx, hb, hown, hU, hK, hJ⟩ := hE
  refine va_callv (va_runS (nL := nL) (As := As) (rest := rest) ⟨hx, hb, hml, hown, hU⟩ hM ⟨callB_of k hU (goodUW hc) rfl hR.1 hR.2.1 (hU _ hini) (hU _ hl) hy hR.2.2, hU _ hst⟩ ⟨gPre.blind, fun U hU1 hW => ⟨rfl, hK.warm hW, by rw [hU1]; exact hw.1⟩⟩ rfl hn hsize hstk (lv_room hrs) hdg hcs) hw.2 (fun q _ h => h) (fun q h => h) (fun σ1 t H1 locs1 ht hvm hp hB hz hk hS => ?_)
  exact kk σ1 hp H1 locs1 ⟨by rw [← ht]; exact hB, hS⟩
/-- a private static method of a nest mate -/
theorem clNi {host : String} {Φ : Int32 → S9 → Prop} (hE : Ev n G p s m args c cc own) (hml : c.maxLocals = nL) (hsize : ls.size = nL) (hw : Pic w n G σ s.heap H locs) (hM : CI w n G l y cb maxL ret rm As σ Φ)
    (hc : Cond.code y cb maxL ret ∈ UW) (hl : Cond.methodLinkNest own index y host ∈ nestW) (hst : Cond.static y ∈ UW) (hini : Cond.initialized y.cls ∈ UW) (hy : yOk y k) (hR : rmOk rm R maxL)
    (hn : As.length = k) (hstk : st0 = As.reverse ++ rest) (hrs : (rest.map fun v => v.category).sum ≤ 8) (hdg : decode cc pc = .ok (.invokestatic index, 3)) (hcs : cells ≤ R.cells ∧ slots ≤ R.slots)
    (kk : ∀ (r : Int32) (σ1 : S9), Φ r σ1 → ∀ (H1 : Heap) (locs1 : List Loc), Pic w n G σ1 s.heap H1 locs1 → W p l e R s m args below meth c H1 locs1 cells slots Q (F0 m (pc + 3) ls (.int r :: rest))) : W p l e R s m args below meth c H locs cells slots Q (F0 m pc ls st0) := by
  obtain ⟨hx, hb, hown, hU, hK, hJ⟩ := hE
  refine va_calli (va_runSN (nL := nL) (As := As) (rest := rest) ⟨hx, hb, hml, hown, hU⟩ hM ⟨va_cnB k hU (goodUW hc) rfl hR.1 hR.2.1 (hK.2 _ hl) (hU _ hini) hy hR.2.2, hU _ hst, trivial⟩ ⟨gPre.blind, fun U hU1 hW => ⟨rfl, hK.warm hW, by rw [hU1]; exact hw.1⟩⟩ rfl hn hsize hstk (lv_room hrs) hdg hcs) hw.2 (fun q _ h => h) (fun q h => h) (fun r σ1 t H1 locs1 ht hvm hp hB hz hk hS => ?_)
  exact kk r σ1 hp H1 locs1 ⟨by rw [← ht]; exact hB, hS⟩
end BaseC
/-! fields and arrays, generic in the world -/
section BaseF
variable {C : String} {T : u_T} {N ci index a : Nat}
theorem gGet (hE : Ev n G p s m args c cc own) (hw : Pic w n G σ s.heap H locs) (hin : ∀ w ∈ u_ws C T N, w ∈ UW) (q0 : Nat) {fs : List Value} (he : (w G σ)[q0]? = some (a, .inr (ci, fs))) (hc : vwCl[ci]? = some (C, T, N)) (k : Nat) (hk : k < N) (hlink : Cond.fieldLink own index (T k).1 (T k).2.1 (T k).2.2.1 ∈ UW) {v : Value} (hv : fs[k]? = some v) (hdg : decode cc pc = .ok (.getfield index, 3))
    (kk : W p l e R s m args below meth c H locs cells slots Q (F0 m (pc + 3) ls (v :: rest))) : W p l e R s m args below meth c H locs cells slots Q (F0 m pc ls (.ref a :: rest)) := by
  obtain ⟨hx, hb, hown, hU, hK, hJ⟩ := hE
  exact va_get hx hb hU hin hown hK.1 hw.1 q0 he hc k hk (hU _ hlink) (fun _ h => h) hv hdg kk
theorem gGetN {host : String} (hE : Ev n G p s m args c cc own) (hw : Pic w n G σ s.heap H locs) (hin : ∀ w ∈ u_ws C T N, w ∈ UW) (q0 : Nat) {fs : List Value} (he : (w G σ)[q0]? = some (a, .inr (ci, fs))) (hc : vwCl[ci]? = some (C, T, N)) (k : Nat) (hk : k < N) (hlink : Cond.fieldLinkNest own index (T k).1 (T k).2.1 (T k).2.2.1 host ∈ nestW) {v : Value} (hv : fs[k]? = some v) (hdg : decode cc pc = .ok (.getfield index, 3))
    (kk : W p l e R s m args below meth c H locs cells slots Q (F0 m (pc + 3) ls (v :: rest))) : W p l e R s m args below meth c H locs cells slots Q (F0 m pc ls (.ref a :: rest)) := by
  obtain ⟨hx, hb, hown, hU, hK, hJ⟩ := hE
  exact va_getN hx hb hU hin hown hK.1 hw.1 q0 he hc k hk (nest_use rfl (hK.2 _ hlink)) (fun _ h => h) hv hdg kk
theorem gPut (hE : Ev n G p s m args c cc own) (hw : Pic w n G σ s.heap H locs) (hin : ∀ w ∈ u_ws C T N, w ∈ UW) (ty0 : Nat → FieldType) (hty : ∀ k, k < N → parseFieldDescriptor (T k).2.2.1 = some (ty0 k)) (hnm : ∀ a, a < N → ∀ b, b < N → a ≠ b → (T a).2.1 ≠ (T b).2.1) (hD : va_D (gRg n G) (w G σ)) (q0 : Nat) {fs : List Value} (he : (w G σ)[q0]? = some (a, .inr (ci, fs))) (hc : vwCl[ci]? = some (C, T, N)) (k : Nat) (hk : k < N) (hlink : Cond.fieldLink own index (T k).1 (T k).2.1 (T k).2.2.1 ∈ UW) (hfin : (T k).2.2.2 = false) {ty : FieldType} {v : Value} (hd : parseFieldDescriptor (T k).2.2.1 = some ty) (hn : narrow ty v = v) (hfit : fits ty v = true) (hl : k < fs.length) {σ1 : S9} (hset : (w G σ).set q0 (a, .inr (ci, fs.set k v)) = w G σ1) (hdg : decode cc pc = .ok (.putfield index, 3))
    (kk : ∀ (H1 : Heap) (locs1 : List Loc), Pic w n G σ1 s.heap H1 locs1 → W p l e R s m args below meth c H1 locs1 cells slots Q (F0 m (pc + 3) ls rest)) : W p l e R s m args below meth c H locs cells slots Q (F0 m pc ls (v :: .ref a :: rest)) := by
  obtain ⟨hx, hb, hown, hU, hK, hJ⟩ := hE
  refine va_put hx hb hU hin ty0 hty hnm hown hK.1 hw.1 hD hw.2 q0 he hc k hk (hU _ hlink) (fun _ h => h) hfin hd hn hfit hl hdg (fun H1 locs1 hP1 hD1 hS1 => ?_)
  exact kk H1 locs1 ⟨by rw [← hset]; exact hP1, hS1⟩
theorem gPutN {host : String} (hE : Ev n G p s m args c cc own) (hw : Pic w n G σ s.heap H locs) (hin : ∀ w ∈ u_ws C T N, w ∈ UW) (ty0 : Nat → FieldType) (hty : ∀ k, k < N → parseFieldDescriptor (T k).2.2.1 = some (ty0 k)) (hnm : ∀ a, a < N → ∀ b, b < N → a ≠ b → (T a).2.1 ≠ (T b).2.1) (hD : va_D (gRg n G) (w G σ)) (q0 : Nat) {fs : List Value} (he : (w G σ)[q0]? = some (a, .inr (ci, fs))) (hc : vwCl[ci]? = some (C, T, N)) (k : Nat) (hk : k < N) (hlink : Cond.fieldLinkNest own index (T k).1 (T k).2.1 (T k).2.2.1 host ∈ nestW) (hfin : (T k).2.2.2 = false) {ty : FieldType} {v : Value} (hd : parseFieldDescriptor (T k).2.2.1 = some ty) (hn : narrow ty v = v) (hfit : fits ty v = true) (hl : k < fs.length) {σ1 : S9} (hset : (w G σ).set q0 (a, .inr (ci, fs.set k v)) = w G σ1) (hdg : decode cc pc = .ok (.putfield index, 3))
    (kk : ∀ (H1 : Heap) (locs1 : List Loc), Pic w n G σ1 s.heap H1 locs1 → W p l e R s m args below meth c H1 locs1 cells slots Q (F0 m (pc + 3) ls rest)) : W p l e R s m args below meth c H locs cells slots Q (F0 m pc ls (v :: .ref a :: rest)) := by
  obtain ⟨hx, hb, hown, hU, hK, hJ⟩ := hE
  refine va_putN hx hb hU hin ty0 hty hnm hown hK.1 hw.1 hD hw.2 q0 he hc k hk (nest_use rfl (hK.2 _ hlink)) (fun _ h => h) hfin hd hn hfit hl hdg (fun H1 locs1 hP1 hD1 hS1 => ?_)
  exact kk H1 locs1 ⟨by rw [← hset]; exact hP1, hS1⟩
theorem gIld (hE : Ev n G p s m args c cc own) (hw : Pic w n G σ s.heap H locs) (q0 : Nat) {nn : Nat} {f : Nat → Int32} (ha : (w G σ)[q0]? = some (a, .inl (G.2.1, nn, .inl f))) {i : Int32} (hin : vp_in i nn) (hdg : decode cc pc = .ok (.iaload, 1))
    (kk : W p l e R s m args below meth c H locs cells slots Q (F0 m (pc + 1) ls (.int (f i.toNatClampNeg) :: rest))) : W p l e R s m args below meth c H locs cells slots Q (F0 m pc ls (.int i :: .ref a :: rest)) := va_iald hE.1 hE.2.1 hE.2.2.2.2.1.1 hw.1 q0 0 ha rfl hin hdg kk
theorem gCld (hE : Ev n G p s m args c cc own) (hw : Pic w n G σ s.heap H locs) (q0 : Nat) {nn : Nat} {f : Nat → Int32} (ha : (w G σ)[q0]? = some (a, .inl (G.2.2.1, nn, .inl f))) {i : Int32} (hin : vp_in i nn) (hdg : decode cc pc = .ok (.caload, 1))
    (kk : W p l e R s m args below meth c H locs cells slots Q (F0 m (pc + 1) ls (.int (f i.toNatClampNeg) :: rest))) : W p l e R s m args below meth c H locs cells slots Q (F0 m pc ls (.int i :: .ref a :: rest)) := va_cald hE.1 hE.2.1 hE.2.2.2.2.1.1 hw.1 q0 1 ha rfl hin hdg kk
theorem gZld (hE : Ev n G p s m args c cc own) (hw : Pic w n G σ s.heap H locs) (q0 : Nat) {nn : Nat} {f : Nat → Int32} (ha : (w G σ)[q0]? = some (a, .inl (G.2.2.2.1, nn, .inl f))) {i : Int32} (hin : vp_in i nn) (hdg : decode cc pc = .ok (.baload, 1))
    (kk : W p l e R s m args below meth c H locs cells slots Q (F0 m (pc + 1) ls (.int (f i.toNatClampNeg) :: rest))) : W p l e R s m args below meth c H locs cells slots Q (F0 m pc ls (.int i :: .ref a :: rest)) := va_zald hE.1 hE.2.1 hE.2.2.2.2.1.1 hw.1 q0 2 ha rfl hin hdg kk
theorem gIst (hE : Ev n G p s m args c cc own) (hw : Pic w n G σ s.heap H locs) (hD : va_D (gRg n G) (w G σ)) (q0 : Nat) {nn : Nat} {f : Nat → Int32} (ha : (w G σ)[q0]? = some (a, .inl (G.2.1, nn, .inl f))) {i x : Int32} (hin : vp_in i nn) {σ1 : S9} (hset : (w G σ).set q0 (a, .inl (G.2.1, nn, .inl (upd f i.toNatClampNeg x))) = w G σ1) (hdg : decode cc pc = .ok (.iastore, 1))
    (kk : ∀ (H1 : Heap) (locs1 : List Loc), Pic w n G σ1 s.heap H1 locs1 → W p l e R s m args below meth c H1 locs1 cells slots Q (F0 m (pc + 1) ls rest)) : W p l e R s m args below meth c H locs cells slots Q (F0 m pc ls (.int x :: .int i :: .ref a :: rest)) :=
  va_iast hE.1 hE.2.1 hE.2.2.2.2.1.1 hw.1 hD hw.2 q0 0 ha rfl hin hdg (fun H1 locs1 hP1 hD1 hS1 => kk H1 locs1 ⟨by rw [← hset]; exact hP1, hS1⟩)
theorem gCst (hE : Ev n G p s m args c cc own) (hw : Pic w n G σ s.heap H locs) (hD : va_D (gRg n G) (w G σ)) (q0 : Nat) {nn : Nat} {f : Nat → Int32} (ha : (w G σ)[q0]? = some (a, .inl (G.2.2.1, nn, .inl f))) {i x : Int32} (hin : vp_in i nn) {σ1 : S9} (hset : (w G σ).set q0 (a, .inl (G.2.2.1, nn, .inl (upd f i.toNatClampNeg (vp_nar .char x)))) = w G σ1) (hdg : decode cc pc = .ok (.castore, 1))
    (kk : ∀ (H1 : Heap) (locs1 : List Loc), Pic w n G σ1 s.heap H1 locs1 → W p l e R s m args below meth c H1 locs1 cells slots Q (F0 m (pc + 1) ls rest)) : W p l e R s m args below meth c H locs cells slots Q (F0 m pc ls (.int x :: .int i :: .ref a :: rest)) :=
  va_cast hE.1 hE.2.1 hE.2.2.2.2.1.1 hw.1 hD hw.2 q0 1 ha rfl hin hdg (fun H1 locs1 hP1 hD1 hS1 => kk H1 locs1 ⟨by rw [← hset]; exact hP1, hS1⟩)
theorem gZst (hE : Ev n G p s m args c cc own) (hw : Pic w n G σ s.heap H locs) (hD : va_D (gRg n G) (w G σ)) (q0 : Nat) {nn : Nat} {f : Nat → Int32} (ha : (w G σ)[q0]? = some (a, .inl (G.2.2.2.1, nn, .inl f))) {i x : Int32} (hin : vp_in i nn) {σ1 : S9} (hset : (w G σ).set q0 (a, .inl (G.2.2.2.1, nn, .inl (upd f i.toNatClampNeg (vp_nar .boolean x)))) = w G σ1) (hdg : decode cc pc = .ok (.bastore, 1))
    (kk : ∀ (H1 : Heap) (locs1 : List Loc), Pic w n G σ1 s.heap H1 locs1 → W p l e R s m args below meth c H1 locs1 cells slots Q (F0 m (pc + 1) ls rest)) : W p l e R s m args below meth c H locs cells slots Q (F0 m pc ls (.int x :: .int i :: .ref a :: rest)) :=
  va_zast hE.1 hE.2.1 hE.2.2.2.2.1.1 hw.1 hD hw.2 q0 2 ha rfl hin hdg (fun H1 locs1 hP1 hD1 hS1 => kk H1 locs1 ⟨by rw [← hset]; exact hP1, hS1⟩)
end BaseF
end BaseA
def ush (x y : Int32) : Int32 := (x.toUInt32 >>> (y.toUInt32 &&& Int32.toUInt32 31)).toInt32
def i2c (x : Int32) : Int32 := (x.toUInt32 % 65536).toInt32
theorem osw_hit {x k : Int32} {a o d : Int} {r : List (Int × Int)} (h : x = k) (hk : k.toInt = a) : Op.lookupswitch.offset ((a, o) :: r) d x.toInt = o := by
  subst h
  rw [Op.lookupswitch.offset_cons, if_pos hk.symm]
section BaseT
variable {p : Program} {l : Launch} {e : Env} {R : Room} {s : State} {m : MethodId} {args : Array Value} {below : List Frame} {meth : Method} {c : Code} {H : Heap} {locs : List Loc} {cells slots : Nat} {Q : State → Prop} {cc : ByteArray} {pc : Nat} {ls : Array Slot} {rest : List Value}
theorem lv_tableH (hexec : p.tables.exec = Jvm.exec) (hb : c.code = cc) {dflt lo hi : Int} {offs : Array Int} {len : Nat} {x k : Int32} {off : Int} {tgt : Nat} (hdg : decode cc pc = .ok (.tableswitch dflt lo hi offs, len)) (h : x = k) (h1 : ¬ k.toInt < lo) (h2 : ¬ hi < k.toInt) (ho : offs[(k.toInt - lo).toNat]? = some off) (ht : (pc : Int) + off = (tgt : Int))
    (kk : W p l e R s m args below meth c H locs cells slots Q (F0 m tgt ls rest)) : W p l e R s m args below meth c H locs cells slots Q (F0 m pc ls (.int x :: rest)) := by
  subst h
  exact lv_tableIn hexec hb hdg h1 h2 ho ht kk
theorem lv_tableD (hexec : p.tables.exec = Jvm.exec) (hb : c.code = cc) {dflt lo hi : Int} {offs : Array Int} {len : Nat} {x : Int32} {tgt : Nat} {ks : List Int32} (hdg : decode cc pc = .ok (.tableswitch dflt lo hi offs, len)) (hk : ∀ k ∈ ks, ¬ x = k) (hall : ∀ j, j < offs.size → offs[j]? = some dflt ∨ Int32.ofInt (lo + j) ∈ ks) (hsz : hi - lo + 1 = offs.size) (ht : (pc : Int) + dflt = (tgt : Int))
    (kk : W p l e R s m args below meth c H locs cells slots Q (F0 m tgt ls rest)) : W p l e R s m args below meth c H locs cells slots Q (F0 m pc ls (.int x :: rest)) := by
  by_cases h1 : x.toInt < lo
  · exact lv_tableOut hexec hb hdg (Or.inl h1) ht kk
  · by_cases h2 : hi < x.toInt
    · exact lv_tableOut hexec hb hdg (Or.inr h2) ht kk
    · rcases hall (x.toInt - lo).toNat (by omega) with h | h
      · exact lv_tableIn hexec hb hdg h1 h2 h ht kk
      · refine absurd ?_ (hk _ h)
        rw [show lo + ((x.toInt - lo).toNat : Int) = x.toInt by omega]
        exact (Int32.ofInt_toInt x).symm
end BaseT
