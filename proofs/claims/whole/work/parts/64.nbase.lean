/-! ===== constructors: a world that grows ===== -/
def EvN (G : GG) (p : Program) (s : State) (m : MethodId) (meth : Method) (args : Array Value) (c : Code) (cb : ByteArray) (own : String) : Prop :=
  p.tables.exec = Jvm.exec ∧ c.code = cb ∧ s.vm.findClass own = some m.cls ∧ (∀ w ∈ UW, w.before args s = true) ∧ gK G s ∧ meth.name = "<init>"
abbrev nQ (G : GG) (A : Nat → Prop) (w1 : (Nat → Nat) → va_W) : Array Value → State → Outcome → State → Prop := va_Qv (fun _ : Nat → Nat => True) (fun u t => va_P G.1 vwCl (w1 u) t.heap ∧ va_D A (w1 u)) A
def nPre (G : GG) (a : Nat) (e0 : va_E) (sz : Nat) (As : List Value) : Array Value → State → Prop := va_Pc (.ref a :: As) (fun U => U.heap.size = sz ∧ gK G U ∧ va_P G.1 vwCl [(a, e0)] U.heap ∧ va_D (fun _ => True) [(a, e0)])
theorem nPre.blind {G : GG} {a sz : Nat} {e0 : va_E} {As : List Value} : FrameBlind (nPre G a e0 sz As) := fun _ _ _ _ q => ⟨q.1, q.2.1, q.2.2.1.calling, q.2.2.2.1, q.2.2.2.2⟩
/-- a constructor's contract: from its fresh object to the object and all that it makes -/
def NI (G : GG) (l : Launch) (y : MethodName) (cb : ByteArray) (maxL : Nat) (rm : Room) (a : Nat) (e0 : va_E) (sz : Nat) (As : List Value) (w1 : (Nat → Nat) → va_W) (mc ms : Nat) : Prop :=
  Met l y (.code y cb maxL none :: UW) rm (nPre G a e0 sz As) (nQ G (va_A [(a, e0)] sz) w1) mc ms (va_A [(a, e0)] sz)
theorem njoin {A0 : Nat → Prop} {D : va_G} {cl : List vw_C} {wr w1 : va_W} {q : Nat} {e : va_E} {H H1 : Heap} (hP : va_P D cl (wr ++ [(q, e)]) H) (hD : va_D A0 (wr ++ [(q, e)])) (nk : ∀ x : Nat, x < H.size → ¬ va_A [(q, e)] H.size x → H1[x]? = H[x]?) (hF : ∀ x, va_A [(q, e)] H.size x → A0 x) (hP1 : va_P D cl w1 H1) (hD1 : va_D (va_A [(q, e)] H.size) w1) :
    va_P D cl (wr ++ w1) H1 ∧ va_D A0 (wr ++ w1) := by
  have left : ∀ (k : Nat) (x : Nat × va_E), wr[k]? = some x → k < wr.length ∧ (wr ++ [(q, e)])[k]? = some x := fun k x hk => by
    have := (List.getElem?_eq_some_iff.mp hk).1
    exact ⟨this, by rw [List.getElem?_append_left this]; exact hk⟩
  have apart : ∀ (k : Nat) (x : Nat × va_E), wr[k]? = some x → x.1 < H.size ∧ ¬ va_A [(q, e)] H.size x.1 := by
    intro k x hk
    obtain ⟨h1, h2⟩ := left k x hk
    have hl := (hP k x h2).lt
    refine ⟨hl, fun h => ?_⟩
    rcases h with ⟨j, e', h⟩ | h
    · have hj : j = 0 := by have := (List.getElem?_eq_some_iff.mp h).1; simp at this; exact this
      subst hj
      have he : (q, e) = (x.1, e') := by simpa using h
      have hq : x.1 = q := (congrArg Prod.fst he).symm
      have := hD.1 k wr.length x (q, e) h2 (by rw [List.getElem?_append_right (Nat.le_refl _), Nat.sub_self]; rfl) hq
      omega
    · omega
  refine ⟨va_P.app (fun k x hk => ?_) hP1, va_D.app ⟨fun i j x y hi hj e => hD.1 i j x y (left i x hi).2 (left j y hj).2 e, fun k x hk => hD.2 k x (left k x hk).2⟩ (hD1.weaken (fun k x _ h => hF x.1 h)) (fun i j x y hx hy hxy => ?_)⟩
  · obtain ⟨g1, g2⟩ := apart k x hk
    exact (hP k x (left k x hk).2).kept (nk x.1 g1 g2)
  · exact (apart i x hx).2 (by rw [hxy]; exact hD1.2 j y hy)
section NRows
variable {p : Program} {l : Launch} {e : Env} {R : Room} {s : State} {m : MethodId} {args : Array Value} {below : List Frame} {meth : Method} {c : Code} {H : Heap} {locs : List Loc} {cells slots : Nat} {Q : State → Prop} {cc : ByteArray} {pc : Nat} {ls : Array Slot} {rest : List Value} {G : GG} {own : String} {A : Nat → Prop} {ws : va_W}
theorem NI.intro {y : MethodName} {cb : ByteArray} {maxL : Nat} {rm : Room} {a sz mc ms : Nat} {e0 : va_E} {As : List Value} {w1 : (Nat → Nat) → va_W} (hy : plainName y.cls = true) (hn : y.name = "<init>") (hav : (lg_sl (.ref a :: As)).length ≤ maxL)
    (body : ∀ p e s m args below meth c ls A, EvN G p s m meth args c cb y.cls → c.maxLocals = maxL → meth.sig.returnType = none → meth.locks = false → (∀ q, s.heap.size ≤ q → A q) → va_P G.1 vwCl [(a, e0)] s.heap → va_D A [(a, e0)] → va_S A s.heap s.heap [] → lv_has ls maxL (lv_args 0 (.ref a :: As)) → W p l e rm s m args below meth c s.heap [] 0 0 (MQ below (nQ G A w1) args s mc ms A) (F0 m 0 ls [])) : NI G l y cb maxL rm a e0 sz As w1 mc ms := by
  refine Met.ofW (cc := cb) (maxL := maxL) (ret := none) hy rfl ?_
  intro p e s m args below meth c s₁ B hml hv
  obtain ⟨rfl, hsz, hK, hP, hD⟩ := hv
  subst hsz
  rw [lg_entry_eq]
  exact body p e s m _ below meth c _ _ ⟨B.exec, B.bytes, findClass_of_methodNamed B.named, fun w hw => atoms_spec (ws := .code y cb maxL none :: UW) B.pre w (List.mem_cons_of_mem _ hw), hK, (name_of_methodNamed B.named B.method).1.trans hn⟩ hml B.returns B.notSynchronized (fun q h => Or.inr h) hP hD.self va_S.rf (lv_entry (.ref a :: As) hav)
theorem nObj {idx a n9 : Nat} (hE : EvN G p s m meth args c cc own) (hml : c.maxLocals = n9) (hsize : ls.size = n9) (hl : Cond.methodLink own idx Lib.objectInit ∈ UW) (hi : Cond.instanceMethod Lib.objectInit ∈ UW) (hc : Cond.code Lib.objectInit ⟨#[0xb1]⟩ 1 none ∈ UW) (hd : decode cc pc = .ok (.invokespecial idx, 3)) (hR : 1 ≤ R.frames ∧ 12 ≤ R.locals)
    (kk : W p l e R s m args below meth c H locs cells slots Q (F0 m (pc + 3) ls [])) : W p l e R s m args below meth c H locs cells slots Q (F0 m pc ls [.ref a]) :=
  W.objInit hE.1 hE.2.1 hE.2.2.1 (hE.2.2.2.1 _ hl) (hE.2.2.2.1 _ hi) (hE.2.2.2.1 _ hc) rfl (hsize.trans hml.symm) rfl hd hR.1 (by show 0 + 0 + 12 ≤ _; omega) kk
theorem nArr {atype : ArrayType} {ty : FieldType} {n : Int32} {N' t0 : Nat} {cA : ClassId} (hE : EvN G p s m meth args c cc own) (hP : va_P G.1 vwCl ws H) (hD : va_D A ws) (hS : va_S A s.heap H locs) (hA : ∀ q, s.heap.size ≤ q → A q) (harr : Cond.arrayClass ty ∈ UW) (hty : newarray.typeOf atype = ty) (hno : ∀ s cA, va_RA s cA ty = (s.vm.findClass ("[" ++ ty.toString) = some cA)) (ht : (gTy G)[t0]? = some (cA, ty))
    (ha : ∀ cB : ClassId, vp_cell cB ((N', .inl (fun _ => 0)) : vp_A) = arrV cB N' (fun _ => defaultValue ty)) (hn : ¬ n < 0) (hN : n.toNatClampNeg = N') (hbytes : N' * componentBytes ty ≤ 536870912) (hcells : cells + 1 ≤ R.cells) (hslots : slots + N' ≤ R.slots) (hdg : decode cc pc = .ok (.newarray atype, 2))
    (kk : ∀ (q : Nat) (H1 : Heap), va_P G.1 vwCl (ws ++ [(q, .inl (cA, N', .inl (fun _ => 0)))]) H1 → va_D A (ws ++ [(q, .inl (cA, N', .inl (fun _ => 0)))]) → va_S A s.heap H1 locs →
      W p l e R s m args below meth c H1 locs (cells + 1) (slots + N') Q (F0 m (pc + 2) ls (.ref q :: rest))) : W p l e R s m args below meth c H locs cells slots Q (F0 m pc ls (.int n :: rest)) := by
  refine va_newa hE.1 hE.2.1 (by rw [hty]; exact hE.2.2.2.1 _ harr) hty hE.2.2.2.2.1.1 hP hD hS hA ha hn hN hbytes hcells hslots hdg (fun q cB H1 hK1 hP1 hD1 hS1 => ?_)
  have h1 := (hK1.2 3 (cB, ty) rfl).2
  have h2 := (hE.2.2.2.2.1.1.2 t0 _ ht).2
  rw [hno] at h1 h2
  have e9 : cB = cA := Option.some.inj (h1.symm.trans h2)
  subst e9
  exact kk q H1 hP1 hD1 hS1
theorem nNew {C : String} {T : u_T} {N ci index : Nat} (hE : EvN G p s m meth args c cc own) (hP : va_P G.1 vwCl ws H) (hD : va_D A ws) (hS : va_S A s.heap H locs) (hA : ∀ q, s.heap.size ≤ q → A q) (hin : ∀ w ∈ u_ws C T N, w ∈ UW) (ty : Nat → FieldType) (hty : ∀ k, k < N → parseFieldDescriptor (T k).2.2.1 = some (ty k)) (hcl : Cond.classLink own index C ∈ UW) (hinst : Cond.instantiable C N ∈ UW) (hini : Cond.initialized C ∈ UW)
    (hc : vwCl[ci]? = some (C, T, N)) {fs : List Value} (hfs : ∀ j, j < N → defaultValue (ty j) = vp_V fs j) (hcells : cells + 1 ≤ R.cells) (hslots : slots + N ≤ R.slots) (hdg : decode cc pc = .ok (.new index, 3))
    (kk : ∀ (q : Nat) (H1 : Heap), va_P G.1 vwCl (ws ++ [(q, .inr (ci, fs))]) H1 → va_D A (ws ++ [(q, .inr (ci, fs))]) → va_S A s.heap H1 locs → W p l e R s m args below meth c H1 locs (cells + 1) (slots + N) Q (F0 m (pc + 3) ls (.ref q :: rest))) : W p l e R s m args below meth c H locs cells slots Q (F0 m pc ls rest) :=
  va_new hE.1 hE.2.1 hE.2.2.2.1 hin ty hty hE.2.2.1 (hE.2.2.2.1 _ hcl) (hE.2.2.2.1 _ hinst) (hE.2.2.2.1 _ hini) hE.2.2.2.2.1.1 hP hD hS hA hc hfs hcells hslots hdg kk
theorem nPut {C : String} {T : u_T} {N ci index a : Nat} (hE : EvN G p s m meth args c cc own) (hP : va_P G.1 vwCl ws H) (hD : va_D A ws) (hS : va_S A s.heap H locs) (hin : ∀ w ∈ u_ws C T N, w ∈ UW) (ty0 : Nat → FieldType) (hty : ∀ k, k < N → parseFieldDescriptor (T k).2.2.1 = some (ty0 k)) (hnm : ∀ a, a < N → ∀ b, b < N → a ≠ b → (T a).2.1 ≠ (T b).2.1) (q0 : Nat) {fs : List Value} (he : ws[q0]? = some (a, .inr (ci, fs))) (hc : vwCl[ci]? = some (C, T, N)) (k : Nat) (hk : k < N) (hlink : Cond.fieldLink own index (T k).1 (T k).2.1 (T k).2.2.1 ∈ UW) (hfin : (T k).2.2.2 = true) (hdecl : (T k).1 = own) {ty : FieldType} {x : Nat} (hd : parseFieldDescriptor (T k).2.2.1 = some ty) (hn : narrow ty (.ref x) = .ref x) (hfit : fits ty (.ref x) = true) (hl : k < fs.length) (hdg : decode cc pc = .ok (.putfield index, 3))
    (kk : ∀ (H1 : Heap) (locs1 : List Loc), va_P G.1 vwCl (ws.set q0 (a, .inr (ci, fs.set k (.ref x)))) H1 → va_D A (ws.set q0 (a, .inr (ci, fs.set k (.ref x)))) → va_S A s.heap H1 locs1 → W p l e R s m args below meth c H1 locs1 cells slots Q (F0 m (pc + 3) ls rest)) : W p l e R s m args below meth c H locs cells slots Q (F0 m pc ls (.ref x :: .ref a :: rest)) :=
  va_putF hE.1 hE.2.1 hE.2.2.2.1 hin ty0 hty hnm hE.2.2.1 hE.2.2.2.2.1.1 hP hD hS q0 he hc k hk (hE.2.2.2.1 _ hlink) (fun _ h => h) hfin hE.2.2.2.2.2 hdecl hd hn hfit hl hdg kk
theorem nGet {C : String} {T : u_T} {N ci index a : Nat} (hE : EvN G p s m meth args c cc own) (hP : va_P G.1 vwCl ws H) (hin : ∀ w ∈ u_ws C T N, w ∈ UW) (q0 : Nat) {fs : List Value} (he : ws[q0]? = some (a, .inr (ci, fs))) (hc : vwCl[ci]? = some (C, T, N)) (k : Nat) (hk : k < N) (hlink : Cond.fieldLink own index (T k).1 (T k).2.1 (T k).2.2.1 ∈ UW) {v : Value} (hv : fs[k]? = some v) (hdg : decode cc pc = .ok (.getfield index, 3))
    (kk : W p l e R s m args below meth c H locs cells slots Q (F0 m (pc + 3) ls (v :: rest))) : W p l e R s m args below meth c H locs cells slots Q (F0 m pc ls (.ref a :: rest)) :=
  va_get hE.1 hE.2.1 hE.2.2.2.1 hin hE.2.2.1 hE.2.2.2.2.1.1 hP q0 he hc k hk (hE.2.2.2.1 _ hlink) (fun _ h => h) hv hdg kk
section NCall
variable {y : MethodName} {cb : ByteArray} {maxL nL index q mc ms k9 : Nat} {rm : Room} {As : List Value} {e0 : va_E} {w1 : (Nat → Nat) → va_W} {st0 : List Value}
theorem nAfter (hr : va_Run p l e R s m args below meth c H locs cells slots mc ms (F0 m pc ls st0) rest (nQ G (va_A [(q, e0)] H.size) w1 (Value.ref q :: As).toArray) (va_A [(q, e0)] H.size)) (hP : va_P G.1 vwCl (ws ++ [(q, e0)]) H) (hD : va_D A (ws ++ [(q, e0)])) (hS : va_S A s.heap H locs) (hA : ∀ q, s.heap.size ≤ q → A q)
    (kk : ∀ (u : Nat → Nat) (H1 : Heap) (locs1 : List Loc), va_P G.1 vwCl (ws ++ w1 u) H1 → va_D A (ws ++ w1 u) → va_S A s.heap H1 locs1 → W p l e R s m args below meth c H1 locs1 (cells + mc) (slots + ms) Q (F0 m (pc + 3) ls rest)) : W p l e R s m args below meth c H locs cells slots Q (F0 m pc ls st0) := by
  have hF : ∀ x, va_A [(q, e0)] H.size x → A x := by
    intro x h
    rcases h with ⟨j, e', h⟩ | h
    · have hj : j = 0 := by have := (List.getElem?_eq_some_iff.mp h).1; simp at this; exact this
      subst hj
      have he : (q, e0) = (x, e') := by simpa using h
      have := hD.2 ws.length (q, e0) (by rw [List.getElem?_append_right (Nat.le_refl _), Nat.sub_self]; rfl)
      have hq : q = x := congrArg Prod.fst he
      rw [← hq]; exact this
    · exact hA x (Nat.le_trans hS.1 h)
  refine va_callv hr hS (fun x _ h => hF x h) hF (fun u t H1 locs1 ht hvm _ hB hz hk hS1 => ?_)
  obtain ⟨hP1, hD1⟩ := hB
  rw [ht] at hP1
  obtain ⟨hP2, hD2⟩ := njoin hP hD hk hF hP1 hD1
  exact kk u H1 locs1 hP2 hD2 hS1
theorem nPreOf {wr : va_W} (hE : EvN G p s m meth args c cc own) (hP : va_P G.1 vwCl (wr ++ [(q, e0)]) H) : PreS s H (nPre G q e0 H.size As) (.ref q :: As) := by
  refine ⟨nPre.blind, fun U hU hW => ⟨rfl, by rw [hU], hE.2.2.2.2.1.warm hW, fun k x hk => ?_, ⟨fun i j a b hi hj _ => ?_, fun _ _ _ => trivial⟩⟩⟩
  · have h0 : k = 0 := by have := (List.getElem?_eq_some_iff.mp hk).1; simp at this; exact this
    subst h0
    have hx : (q, e0) = x := by simpa using hk
    rw [← hx, hU]
    exact hP wr.length _ (by rw [List.getElem?_append_right (Nat.le_refl _), Nat.sub_self]; rfl)
  · have h1 := (List.getElem?_eq_some_iff.mp hi).1
    have h2 := (List.getElem?_eq_some_iff.mp hj).1
    simp at h1 h2
    omega
theorem nCall (hE : EvN G p s m meth args c cc own) (hml : c.maxLocals = nL) (hsize : ls.size = nL) (hP : va_P G.1 vwCl (ws ++ [(q, e0)]) H) (hD : va_D A (ws ++ [(q, e0)])) (hS : va_S A s.heap H locs) (hA : ∀ q, s.heap.size ≤ q → A q) (hM : NI G l y cb maxL rm q e0 H.size As w1 mc ms)
    (hc : Cond.code y cb maxL none ∈ UW) (hl : Cond.methodLink own index y ∈ UW) (hi : Cond.instanceMethod y ∈ UW) (hini : Cond.initialized y.cls ∈ UW) (hy1 : y.name = "<init>") (hy : yOk y k9) (hR : rm.cells = mc ∧ rm.slots = ms ∧ rm.frames + 1 ≤ R.frames ∧ 8 + (maxL + 11) + rm.locals ≤ R.locals)
    (hn : As.length = k9) (hstk : st0 = As.reverse ++ .ref q :: rest) (hrs : (rest.map fun v => v.category).sum ≤ 8) (hdg : decode cc pc = .ok (.invokespecial index, 3)) (hcs : cells + mc ≤ R.cells ∧ slots + ms ≤ R.slots)
    (kk : ∀ (u : Nat → Nat) (H1 : Heap) (locs1 : List Loc), va_P G.1 vwCl (ws ++ w1 u) H1 → va_D A (ws ++ w1 u) → va_S A s.heap H1 locs1 → W p l e R s m args below meth c H1 locs1 (cells + mc) (slots + ms) Q (F0 m (pc + 3) ls rest)) : W p l e R s m args below meth c H locs cells slots Q (F0 m pc ls st0) :=
  nAfter (va_runI (nL := nL) (As := As) (rest := rest) ⟨hE.1, hE.2.1, hml, hE.2.2.1, hE.2.2.2.1⟩ hM (cwI k9 hE.2.2.2.1 (goodUW hc) rfl hR.1 hR.2.1 (hE.2.2.2.1 _ hini) (hE.2.2.2.1 _ hl) (hE.2.2.2.1 _ hi) hy1 hy hR.2.2) (nPreOf hE hP) rfl hn hsize hstk (lv_room hrs) hdg hcs) hP hD hS hA kk
theorem nCallN {host : String} (hE : EvN G p s m meth args c cc own) (hml : c.maxLocals = nL) (hsize : ls.size = nL) (hP : va_P G.1 vwCl (ws ++ [(q, e0)]) H) (hD : va_D A (ws ++ [(q, e0)])) (hS : va_S A s.heap H locs) (hA : ∀ q, s.heap.size ≤ q → A q) (hM : NI G l y cb maxL rm q e0 H.size As w1 mc ms)
    (hc : Cond.code y cb maxL none ∈ UW) (hl : Cond.methodLinkNest own index y host ∈ nestW) (hi : Cond.instanceMethod y ∈ UW) (hini : Cond.initialized y.cls ∈ UW) (hy1 : y.name = "<init>") (hy : yOk y k9) (hR : rm.cells = mc ∧ rm.slots = ms ∧ rm.frames + 1 ≤ R.frames ∧ 8 + (maxL + 11) + rm.locals ≤ R.locals)
    (hn : As.length = k9) (hstk : st0 = As.reverse ++ .ref q :: rest) (hrs : (rest.map fun v => v.category).sum ≤ 8) (hdg : decode cc pc = .ok (.invokespecial index, 3)) (hcs : cells + mc ≤ R.cells ∧ slots + ms ≤ R.slots)
    (kk : ∀ (u : Nat → Nat) (H1 : Heap) (locs1 : List Loc), va_P G.1 vwCl (ws ++ w1 u) H1 → va_D A (ws ++ w1 u) → va_S A s.heap H1 locs1 → W p l e R s m args below meth c H1 locs1 (cells + mc) (slots + ms) Q (F0 m (pc + 3) ls rest)) : W p l e R s m args below meth c H locs cells slots Q (F0 m pc ls st0) :=
  nAfter (va_runIN (nL := nL) (As := As) (rest := rest) ⟨hE.1, hE.2.1, hml, hE.2.2.1, hE.2.2.2.1⟩ hM ⟨va_cnB k9 hE.2.2.2.1 (goodUW hc) rfl hR.1 hR.2.1 (hE.2.2.2.2.1.2 _ hl) (hE.2.2.2.1 _ hini) hy hR.2.2, hy1, hE.2.2.2.1 _ hi⟩ (nPreOf hE hP) rfl hn hsize hstk (lv_room hrs) hdg hcs) hP hD hS hA kk
end NCall
theorem nRet {w1 : (Nat → Nat) → va_W} (hE : EvN G p s m meth args c cc own) (hr : meth.sig.returnType = none) (hlocks : meth.locks = false) (u : Nat → Nat) (hP : va_P G.1 vwCl (w1 u) H) (hD : va_D A (w1 u)) (hS : va_S A s.heap H locs) (hdg : decode cc pc = .ok (.return_, 1)) : W p l e R s m args below meth c H locs cells slots (MQ below (nQ G A w1) args s cells slots A) (F0 m pc ls []) :=
  W.vret hE.1 hE.2.1 hr (fun t ht _ => ⟨⟨u, rfl, trivial, by show va_P _ _ _ t.heap; rw [ht]; exact hP, hD⟩, hS.F ht⟩) hS.2.2 hdg
end NRows
