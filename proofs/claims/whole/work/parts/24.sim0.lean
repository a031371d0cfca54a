/-! ===== the state between statements ===== -/
/-- is the definition of a procedure open -/
def inD (B : AR) (d : Nat) : Prop := 1 ≤ d ∧ B 14 1 = -1
noncomputable def owR (B : AR) (d np : Nat) : Nat := @ite _ (inD B d) (Classical.propDecidable _) np 26
def OO (B : AR) (d : Nat) (xo : Int32) (s : Nat) : Prop := (∃ e, 1 ≤ e ∧ e ≤ d ∧ B 14 e = nI s) ∨ xo = nI s
def UU (B : AR) (d : Nat) (xu : Int32) (s : Nat) : Prop := (∃ e, e ≤ d ∧ B 16 e = nI s) ∨ xu = nI s
/-- an open block with an opener o at level e -/
def OPN (B C : AR) (g : GH) (S m e o : Nat) : Prop :=
  (B 15 e = 0 ∧ (B 2 o = 63 ∨ B 2 o = 42) ∧ g 6 o = 0 ∧ B 7 o = -1 ∧ (B 16 e = -1 → B 6 o = -1) ∧ (¬ B 16 e = -1 → FIok B g S o)) ∨
  (B 15 e = 1 ∧ B 2 o = 63 ∧ ELok B C g S m o ∧ (B 16 e = -1 → B 7 o = -1) ∧ (¬ B 16 e = -1 → SEok B g S o))
def LVe (B C : AR) (g : GH) (S m ow e : Nat) : Prop := (e = 1 ∧ B 14 1 = -1) ∨ ∃ o : Nat, B 14 e = nI o ∧ o < S ∧ B 16 (e - 1) = nI o ∧ g 2 o = ow ∧ OPN B C g S m e o
def LSe (B : AR) (g : GH) (S ow e : Nat) : Prop := B 16 e = -1 ∨ ∃ l : Nat, B 16 e = nI l ∧ l < S ∧ B 8 l = -1 ∧ B 5 l = B 14 e ∧ g 2 l = (if e = 0 then 26 else ow) ∧ (1 ≤ e → ∀ o : Nat, o < S → B 14 e = nI o → o < l ∧ g 7 l = (if B 15 e = 0 then 0 else 1))
def LVL (B C : AR) (g : GH) (S m d ow : Nat) : Prop := B 14 0 = -1 ∧ (∀ e, 1 ≤ e → e ≤ d → LVe B C g S m ow e) ∧ ∀ e, e ≤ d → LSe B g S ow e
/-- open blocks that have still to make their jump -/
noncomputable def cntL (B : AR) : Nat → Nat
  | 0 => 0
  | d + 1 => cntL B d + @ite _ (B 14 (d + 1) = -1 ∨ ¬ B 15 (d + 1) = 0) (Classical.propDecidable _) 0 1
/-- how many procedures of the first n are defined -/
noncomputable def cntD (B : AR) : Nat → Nat
  | 0 => 0
  | n + 1 => cntD B n + @ite _ (B 13 n = 0) (Classical.propDecidable _) 0 1
/-- procedures that are defined -/
def PDq (B C : AR) (g : GH) (S m np q : Nat) : Prop := B 13 q = 1 ∧ C 15 q = 1 ∧ g 8 q < np ∧ ∃ e : Nat, C 14 q = nI e ∧ e < m ∧ ((B 12 q = -1 ∧ C 6 e = 12) ∨ ∃ t : Nat, B 12 q = nI t ∧ t < S ∧ g 0 t = e ∧ g 2 t = g 8 q)
def PD (B C : AR) (g : GH) (S m np : Nat) : Prop := ∀ q, q < 26 → (B 13 q = 0 ∧ C 15 q = 0) ∨ PDq B C g S m np q
/-- the program's own level: the place y behind its last step so far -/
def MN (B C : AR) (g : GH) (S m y : Nat) : Prop := (B 16 0 = -1 ∧ B 12 26 = -1 ∧ JJ C g m 0 y) ∨ ∃ t : Nat, B 12 26 = nI t ∧ t < S ∧ g 2 t = 26 ∧ JJ C g m 0 (g 0 t) ∧ ∃ l : Nat, B 16 0 = nI l ∧ l < S
/-- kinds, places, targets of a step -/
def kdm (k c : Int32) : Prop := (k = 61 ∧ c = 3) ∨ (k = 64 ∧ c = 164) ∨ (k = 33 ∧ c = 133) ∨ (k = 65 ∧ c = 4) ∨ (k = 63 ∧ c = 163) ∨ (k = 42 ∧ c = 142)
def SSs (B C : AR) (g : GH) (s : Nat) : Prop :=
  kdm (B 2 s) (C 6 (g 0 s)) ∧ B 3 s = nI (g 9 s) ∧ C 10 (g 0 s) = nI (g 9 s) ∧ g 9 s < 3000 ∧
  (B 2 s = 61 → ∃ p : Nat, p < 26 ∧ B 4 s = nI p ∧ C 7 (g 0 s) = nI p) ∧ (B 2 s = 65 → ∃ q : Nat, q < 26 ∧ B 4 s = nI q ∧ B 13 q = 1 ∧ C 7 (g 0 s) = C 14 q ∧ g 8 q < g 2 s)
def csg (g : GH) (s : Nat) : Nat := if s = 0 then 0 else g 10 (s - 1)
def hfin (k : Int32) : Nat := if k = 64 then 2 else if k = 65 then 0 else 1
/-- the code of a step that is read -/
def CDs (B C : AR) (g : GH) (s : Nat) : Prop :=
  B 9 s = nI (g 10 s) ∧ C 8 (g 0 s) = nI (csg g s) ∧ C 9 (g 0 s) = nI (g 10 s) ∧ (csg g s ≤ g 10 s ∧ g 10 s - csg g s ≤ 120) ∧ C 11 (g 0 s) = nI (trep (C 12) (C 13) (csg g s) (g 10 s - csg g s)).1.length ∧ hok (C 12) (csg g s) (g 10 s - csg g s) ∧ hgt (C 12) (csg g s) (g 10 s - csg g s) = hfin (B 2 s)
def MR (b c : S9) (g : GH) (S pl : Nat) : Prop := c.1 12 = nI pl ∧ pl = csg g S ∧ ∀ k, k < pl → c.2.1 12 k = mk (b.2.1 10 k) ∧ c.2.1 13 k = b.2.1 11 k ∧ okS (b.2.1 10 k) ∧ (b.2.1 10 k = 97 → ∃ p : Nat, p < 26 ∧ b.2.1 11 k = nI p)
/-- numbers that both have -/
def NUM (b c : S9) (S m d np : Nat) : Prop := b.1 4 = nI S ∧ S ≤ 300 ∧ c.1 8 = nI S ∧ b.1 6 = nI d ∧ c.1 6 = nI d ∧ d ≤ 20 ∧ b.1 5 = nI np ∧ c.1 13 = nI np ∧ np ≤ 26 ∧ c.1 11 = nI m ∧ c.1 4 = -1
/-- all that doesn't hang on where in a statement one stands. T: how many steps are read to their ends; xo, xu: a further open step, a further one that isn't settled -/
def SM (b c : S9) (g : GH) (S m d np T : Nat) (xo xu : Int32) (wp : Nat) : Prop := (NUM b c S m d np) ∧ (ST b.2.1 c.2.1 g S m (OO b.2.1 d xo) (UU b.2.1 d xu)) ∧ (LVL b.2.1 c.2.1 g S m d (owR b.2.1 d np)) ∧ (PD b.2.1 c.2.1 g S m np) ∧ (np = cntD b.2.1 26) ∧ (∀ s, s < S → SSs b.2.1 c.2.1 g s) ∧ (∀ s t, s < t → t < S → g 9 s < g 9 t) ∧ (∀ s, s < S → g 9 s < wp) ∧ (∀ h, h < m → (∃ s, s < S ∧ h = g 0 s) ∨ c.2.1 10 h = -1) ∧ (T ≤ S) ∧ (∀ s, s < T → CDs b.2.1 c.2.1 g s) ∧ (∀ s, s < T → g 10 s ≤ csg g T)
theorem SM.num {b c : S9} {g : GH} {S m d np T : Nat} {xo xu : Int32} {wp : Nat} (h : SM b c g S m d np T xo xu wp) : NUM b c S m d np := h.1
theorem SM.st {b c : S9} {g : GH} {S m d np T : Nat} {xo xu : Int32} {wp : Nat} (h : SM b c g S m d np T xo xu wp) : ST b.2.1 c.2.1 g S m (OO b.2.1 d xo) (UU b.2.1 d xu) := h.2.1
theorem SM.lv {b c : S9} {g : GH} {S m d np T : Nat} {xo xu : Int32} {wp : Nat} (h : SM b c g S m d np T xo xu wp) : LVL b.2.1 c.2.1 g S m d (owR b.2.1 d np) := h.2.2.1
theorem SM.pd {b c : S9} {g : GH} {S m d np T : Nat} {xo xu : Int32} {wp : Nat} (h : SM b c g S m d np T xo xu wp) : PD b.2.1 c.2.1 g S m np := h.2.2.2.1
theorem SM.cnt {b c : S9} {g : GH} {S m d np T : Nat} {xo xu : Int32} {wp : Nat} (h : SM b c g S m d np T xo xu wp) : np = cntD b.2.1 26 := h.2.2.2.2.1
theorem SM.ss {b c : S9} {g : GH} {S m d np T : Nat} {xo xu : Int32} {wp : Nat} (h : SM b c g S m d np T xo xu wp) : ∀ s, s < S → SSs b.2.1 c.2.1 g s := h.2.2.2.2.2.1
theorem SM.po {b c : S9} {g : GH} {S m d np T : Nat} {xo xu : Int32} {wp : Nat} (h : SM b c g S m d np T xo xu wp) : ∀ s t, s < t → t < S → g 9 s < g 9 t := h.2.2.2.2.2.2.1
theorem SM.pw {b c : S9} {g : GH} {S m d np T : Nat} {xo xu : Int32} {wp : Nat} (h : SM b c g S m d np T xo xu wp) : ∀ s, s < S → g 9 s < wp := h.2.2.2.2.2.2.2.1
theorem SM.cp {b c : S9} {g : GH} {S m d np T : Nat} {xo xu : Int32} {wp : Nat} (h : SM b c g S m d np T xo xu wp) : ∀ h, h < m → (∃ s, s < S ∧ h = g 0 s) ∨ c.2.1 10 h = -1 := h.2.2.2.2.2.2.2.2.1
theorem SM.tl {b c : S9} {g : GH} {S m d np T : Nat} {xo xu : Int32} {wp : Nat} (h : SM b c g S m d np T xo xu wp) : T ≤ S := h.2.2.2.2.2.2.2.2.2.1
theorem SM.cd {b c : S9} {g : GH} {S m d np T : Nat} {xo xu : Int32} {wp : Nat} (h : SM b c g S m d np T xo xu wp) : ∀ s, s < T → CDs b.2.1 c.2.1 g s := h.2.2.2.2.2.2.2.2.2.2.1
theorem SM.gm {b c : S9} {g : GH} {S m d np T : Nat} {xo xu : Int32} {wp : Nat} (h : SM b c g S m d np T xo xu wp) : ∀ s, s < T → g 10 s ≤ csg g T := h.2.2.2.2.2.2.2.2.2.2.2
/-- a definition is open -/
def DI (b c : S9) (g : GH) (S m d np pr pj : Nat) (xo : Int32) : Prop := (b.1 8 = nI pr) ∧ (pr < 26) ∧ (b.2.1 13 pr = 0) ∧ (c.2.1 14 pr = nI (pj + 1)) ∧ (pj < m) ∧ (c.2.1 6 pj = 11) ∧ (g 4 pj = 4) ∧ (MN b.2.1 c.2.1 g S m pj) ∧ (∀ l : Nat, l < S → b.2.1 16 0 = nI l → JJ c.2.1 g m (g 1 l) pj ∧ ¬ OO b.2.1 d xo l) ∧ ((b.2.1 16 1 = -1 ∧ b.2.1 12 pr = -1) ∨ ∃ t : Nat, b.2.1 12 pr = nI t ∧ t < S ∧ g 0 t = pj + 1 ∧ g 2 t = np ∧ ¬ b.2.1 16 1 = -1) ∧ (∀ h, h < m → g 4 h = 4 → h = pj) ∧ (∀ q, q < 26 → b.2.1 13 q = 0 → ¬ q = pr → b.2.1 12 q = -1)
theorem DI.p8 {b c : S9} {g : GH} {S m d np pr pj : Nat} {xo : Int32} (h : DI b c g S m d np pr pj xo) : b.1 8 = nI pr := h.1
theorem DI.pl {b c : S9} {g : GH} {S m d np pr pj : Nat} {xo : Int32} (h : DI b c g S m d np pr pj xo) : pr < 26 := h.2.1
theorem DI.nd {b c : S9} {g : GH} {S m d np pr pj : Nat} {xo : Int32} (h : DI b c g S m d np pr pj xo) : b.2.1 13 pr = 0 := h.2.2.1
theorem DI.en {b c : S9} {g : GH} {S m d np pr pj : Nat} {xo : Int32} (h : DI b c g S m d np pr pj xo) : c.2.1 14 pr = nI (pj + 1) := h.2.2.2.1
theorem DI.jm {b c : S9} {g : GH} {S m d np pr pj : Nat} {xo : Int32} (h : DI b c g S m d np pr pj xo) : pj < m := h.2.2.2.2.1
theorem DI.jc {b c : S9} {g : GH} {S m d np pr pj : Nat} {xo : Int32} (h : DI b c g S m d np pr pj xo) : c.2.1 6 pj = 11 := h.2.2.2.2.2.1
theorem DI.jk {b c : S9} {g : GH} {S m d np pr pj : Nat} {xo : Int32} (h : DI b c g S m d np pr pj xo) : g 4 pj = 4 := h.2.2.2.2.2.2.1
theorem DI.mn {b c : S9} {g : GH} {S m d np pr pj : Nat} {xo : Int32} (h : DI b c g S m d np pr pj xo) : MN b.2.1 c.2.1 g S m pj := h.2.2.2.2.2.2.2.1
theorem DI.ml {b c : S9} {g : GH} {S m d np pr pj : Nat} {xo : Int32} (h : DI b c g S m d np pr pj xo) : ∀ l : Nat, l < S → b.2.1 16 0 = nI l → JJ c.2.1 g m (g 1 l) pj ∧ ¬ OO b.2.1 d xo l := h.2.2.2.2.2.2.2.2.1
theorem DI.fs {b c : S9} {g : GH} {S m d np pr pj : Nat} {xo : Int32} (h : DI b c g S m d np pr pj xo) : (b.2.1 16 1 = -1 ∧ b.2.1 12 pr = -1) ∨ ∃ t : Nat, b.2.1 12 pr = nI t ∧ t < S ∧ g 0 t = pj + 1 ∧ g 2 t = np ∧ ¬ b.2.1 16 1 = -1 := h.2.2.2.2.2.2.2.2.2.1
theorem DI.ot {b c : S9} {g : GH} {S m d np pr pj : Nat} {xo : Int32} (h : DI b c g S m d np pr pj xo) : ∀ h, h < m → g 4 h = 4 → h = pj := h.2.2.2.2.2.2.2.2.2.2.1
theorem DI.ue {b c : S9} {g : GH} {S m d np pr pj : Nat} {xo : Int32} (h : DI b c g S m d np pr pj xo) : ∀ q, q < 26 → b.2.1 13 q = 0 → ¬ q = pr → b.2.1 12 q = -1 := h.2.2.2.2.2.2.2.2.2.2.2
/-- none is -/
def DN (b c : S9) (g : GH) (S m : Nat) : Prop := (b.1 8 = 26) ∧ (∀ h, h < m → ¬ g 4 h = 4) ∧ (∃ y, MN b.2.1 c.2.1 g S m y) ∧ (∀ q, q < 26 → b.2.1 13 q = 0 → b.2.1 12 q = -1)
theorem DN.p8 {b c : S9} {g : GH} {S m : Nat} (h : DN b c g S m) : b.1 8 = 26 := h.1
theorem DN.nj {b c : S9} {g : GH} {S m : Nat} (h : DN b c g S m) : ∀ h, h < m → ¬ g 4 h = 4 := h.2.1
theorem DN.mn {b c : S9} {g : GH} {S m : Nat} (h : DN b c g S m) : ∃ y, MN b.2.1 c.2.1 g S m y := h.2.2.1
theorem DN.ue {b c : S9} {g : GH} {S m : Nat} (h : DN b c g S m) : ∀ q, q < 26 → b.2.1 13 q = 0 → b.2.1 12 q = -1 := h.2.2.2
def DF (b c : S9) (g : GH) (S m d np pr pj : Nat) (xo : Int32) : Prop := (inD b.2.1 d → DI b c g S m d np pr pj xo) ∧ (¬ inD b.2.1 d → DN b c g S m)
/-- the things below: the blocks that are open -/
noncomputable def ctxT (B : AR) (g : GH) (pn : Nat) (e : Nat) : Int32 × Int32 :=
  @ite _ (B 14 e = -1) (Classical.propDecidable _) (18, nI pn) (@ite _ (B 15 e = 0) (Classical.propDecidable _) (@ite _ (B 2 (B 14 e).toNatClampNeg = 63) (Classical.propDecidable _) (15, nI (g 0 (B 14 e).toNatClampNeg)) (17, nI (g 0 (B 14 e).toNatClampNeg))) (16, nI (g 3 (B 14 e).toNatClampNeg)))
noncomputable def bsT (B : AR) (g : GH) (pn : Nat) : Nat → List (Int32 × Int32)
  | 0 => [(1, 0)]
  | d + 1 => (2, 0) :: ctxT B g pn (d + 1) :: bsT B g pn d
theorem bsT_len (B : AR) (g : GH) (pn d : Nat) : (bsT B g pn d).length = 2 * d + 1 := by
  induction d with
  | zero => rfl
  | succ d ih => simp only [bsT, List.length_cons, ih]; omega
theorem bsT_congr {B B' : AR} {g g' : GH} {pn : Nat} : ∀ {d : Nat}, (∀ e, 1 ≤ e → e ≤ d → ctxT B' g' pn e = ctxT B g pn e) → bsT B' g' pn d = bsT B g pn d := by
  intro d
  induction d with
  | zero => intro _; rfl
  | succ d ih => intro h; simp only [bsT, h (d + 1) (by omega) (Nat.le_refl _), ih (fun e h1 h2 => h e h1 (by omega))]
/-- where a statement may begin: the place m is the next one's -/
def PN0 (B C : AR) (g : GH) (S m d pr : Nat) : Prop :=
  (d = 0 → MN B C g S m m ∧ ∀ l : Nat, l < S → B 16 0 = nI l → JJ C g m (g 1 l) m) ∧
  (1 ≤ d → (∀ l : Nat, l < S → B 16 d = nI l → g 1 l = m) ∧ (B 16 d = -1 → (B 14 d = -1 → C 14 pr = nI m) ∧ ∀ o : Nat, o < S → B 14 d = nI o → (B 15 d = 0 → g 0 o + 1 = m) ∧ (B 15 d = 1 → g 3 o + 1 = m)))
/-- room for codes -/
def RM (B : AR) (S m d np : Nat) (x : Nat) : Prop := m + cntL B d + x ≤ 2 * S + 2 * np + @ite _ (inD B d) (Classical.propDecidable _) 1 0
