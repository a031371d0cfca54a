/-! ===== where in a statement one stands ===== -/
def WFb (b b' : S9) : Prop := (∀ k, k = 2 ∨ k = 3 ∨ k = 10 ∨ k = 11 ∨ k = 12 → b'.1 k = b.1 k) ∧ b'.2.1 0 = b.2.1 0 ∧ b'.2.1 1 = b.2.1 1 ∧ b'.2.2 = b.2.2
def WFc (c c' : S9) : Prop := (∀ k, k = 0 ∨ k = 1 ∨ k = 2 ∨ k = 16 ∨ k = 22 → c'.1 k = c.1 k) ∧ c'.2.1 0 = c.2.1 0 ∧ c'.2.1 1 = c.2.1 1 ∧ c'.2.1 2 = c.2.1 2 ∧ c'.2.1 3 = c.2.1 3 ∧ c'.2.1 24 = c.2.1 24
theorem WFb.rf (b : S9) : WFb b b := ⟨fun _ _ => rfl, rfl, rfl, rfl⟩
theorem WFc.rf (c : S9) : WFc c c := ⟨fun _ _ => rfl, rfl, rfl, rfl, rfl, rfl⟩
theorem WFb.trans {a b c : S9} (h1 : WFb a b) (h2 : WFb b c) : WFb a c := ⟨fun k hk => (h2.1 k hk).trans (h1.1 k hk), h2.2.1.trans h1.2.1, h2.2.2.1.trans h1.2.2.1, h2.2.2.2.trans h1.2.2.2⟩
theorem WFc.trans {a b c : S9} (h1 : WFc a b) (h2 : WFc b c) : WFc a c := ⟨fun k hk => (h2.1 k hk).trans (h1.1 k hk), h2.2.1.trans h1.2.1, h2.2.2.1.trans h1.2.2.1, h2.2.2.2.1.trans h1.2.2.2.1, h2.2.2.2.2.1.trans h1.2.2.2.2.1, h2.2.2.2.2.2.trans h1.2.2.2.2.2⟩
theorem FXb.wf {b b' : S9} {S : Nat} (h : FXb b b' S) : WFb b b' := ⟨fun k hk => h.1 k (by omega), h.2.1 0 (by decide) (by decide) (by decide), h.2.1 1 (by decide) (by decide) (by decide), h.2.2.1⟩
theorem FXc.wf {c c' : S9} {pl : Nat} (h : FXc c c' pl) : WFc c c' := by
  have r : ∀ k, k ≠ 12 ∧ k ≠ 13 ∧ k ≠ 16 ∧ k ≠ 17 ∧ k ≠ 18 ∧ k ≠ 19 → c'.2.1 k = c.2.1 k := fun k e => h.2.1 k e.1 e.2.1 e.2.2.1 e.2.2.2.1 e.2.2.2.2.1 e.2.2.2.2.2
  exact ⟨fun k hk => h.1 k (by omega) (by omega) (by omega) (by omega) (by omega) (by omega), r 0 (by decide), r 1 (by decide), r 2 (by decide), r 3 (by decide), r 24 (by decide)⟩
theorem ASf.wf {b b' : S9} {S : Nat} (h : ASf b b' S) : WFb b b' := ⟨fun k hk => h.1 k (by omega) (by omega) (by omega) (by omega) (by omega) (by omega), h.2.2.2.2.2.2.2.1, h.2.2.2.2.2.2.2.2, h.2.2.2.2.2.2.1⟩
theorem WFb_7 {b b' : S9} {v : Int32} (h : WFb b b') : WFb b (sF b' 7 v) := ⟨fun k hk => (pk_un (by omega)).trans (h.1 k hk), h.2.1, h.2.2.1, h.2.2.2⟩
/-- a statement may begin -/
def R0 (b c : S9) (g : GH) (S m d np pl pr pj wp : Nat) : Prop := (SM b c g S m d np S (-1) (-1) wp) ∧ (MR b c g S pl) ∧ (PN0 b.2.1 c.2.1 g S m d pr) ∧ (DF b c g S m d np pr pj (-1)) ∧ (RM b.2.1 S m d np 0) ∧ (c.1 7 = 0)
theorem R0.sm {b c : S9} {g : GH} {S m d np pl pr pj wp : Nat} (h : R0 b c g S m d np pl pr pj wp) : SM b c g S m d np S (-1) (-1) wp := h.1
theorem R0.mr {b c : S9} {g : GH} {S m d np pl pr pj wp : Nat} (h : R0 b c g S m d np pl pr pj wp) : MR b c g S pl := h.2.1
theorem R0.pn {b c : S9} {g : GH} {S m d np pl pr pj wp : Nat} (h : R0 b c g S m d np pl pr pj wp) : PN0 b.2.1 c.2.1 g S m d pr := h.2.2.1
theorem R0.df {b c : S9} {g : GH} {S m d np pl pr pj wp : Nat} (h : R0 b c g S m d np pl pr pj wp) : DF b c g S m d np pr pj (-1) := h.2.2.2.1
theorem R0.rm {b c : S9} {g : GH} {S m d np pl pr pj wp : Nat} (h : R0 b c g S m d np pl pr pj wp) : RM b.2.1 S m d np 0 := h.2.2.2.2.1
theorem R0.o7 {b c : S9} {g : GH} {S m d np pl pr pj wp : Nat} (h : R0 b c g S m d np pl pr pj wp) : c.1 7 = 0 := h.2.2.2.2.2
def xoS (B : AR) (S : Nat) : Int32 := if B 2 S = 63 ∨ B 2 S = 42 then nI S else -1
def xcS (B : AR) (S : Nat) : Nat := if B 2 S = 63 ∨ B 2 S = 42 then 1 else 0
/-- the expressions of step S are read -/
def AX (b c : S9) (g : GH) (S m d np pl0 pr pj wp : Nat) : Prop := (SM b c g (S + 1) m d np S (xoS b.2.1 S) (-1) wp) ∧ (DF b c g (S + 1) m d np pr pj (xoS b.2.1 S)) ∧ (RM b.2.1 (S + 1) m d np (xcS b.2.1 S)) ∧ (b.2.1 16 d = nI S) ∧ (b.1 9 = nI S) ∧ (g 0 S + 1 = m) ∧ (g 1 S = m) ∧ (g 6 S = 0) ∧ (b.2.1 6 S = -1) ∧ (b.2.1 7 S = -1) ∧ (c.2.1 8 (g 0 S) = nI pl0) ∧ (pl0 = csg g S)
theorem AX.sm {b c : S9} {g : GH} {S m d np pl0 pr pj wp : Nat} (h : AX b c g S m d np pl0 pr pj wp) : SM b c g (S + 1) m d np S (xoS b.2.1 S) (-1) wp := h.1
theorem AX.df {b c : S9} {g : GH} {S m d np pl0 pr pj wp : Nat} (h : AX b c g S m d np pl0 pr pj wp) : DF b c g (S + 1) m d np pr pj (xoS b.2.1 S) := h.2.1
theorem AX.rm {b c : S9} {g : GH} {S m d np pl0 pr pj wp : Nat} (h : AX b c g S m d np pl0 pr pj wp) : RM b.2.1 (S + 1) m d np (xcS b.2.1 S) := h.2.2.1
theorem AX.ls {b c : S9} {g : GH} {S m d np pl0 pr pj wp : Nat} (h : AX b c g S m d np pl0 pr pj wp) : b.2.1 16 d = nI S := h.2.2.2.1
theorem AX.cs {b c : S9} {g : GH} {S m d np pl0 pr pj wp : Nat} (h : AX b c g S m d np pl0 pr pj wp) : b.1 9 = nI S := h.2.2.2.2.1
theorem AX.g0 {b c : S9} {g : GH} {S m d np pl0 pr pj wp : Nat} (h : AX b c g S m d np pl0 pr pj wp) : g 0 S + 1 = m := h.2.2.2.2.2.1
theorem AX.g1 {b c : S9} {g : GH} {S m d np pl0 pr pj wp : Nat} (h : AX b c g S m d np pl0 pr pj wp) : g 1 S = m := h.2.2.2.2.2.2.1
theorem AX.g6 {b c : S9} {g : GH} {S m d np pl0 pr pj wp : Nat} (h : AX b c g S m d np pl0 pr pj wp) : g 6 S = 0 := h.2.2.2.2.2.2.2.1
theorem AX.b6 {b c : S9} {g : GH} {S m d np pl0 pr pj wp : Nat} (h : AX b c g S m d np pl0 pr pj wp) : b.2.1 6 S = -1 := h.2.2.2.2.2.2.2.2.1
theorem AX.b7 {b c : S9} {g : GH} {S m d np pl0 pr pj wp : Nat} (h : AX b c g S m d np pl0 pr pj wp) : b.2.1 7 S = -1 := h.2.2.2.2.2.2.2.2.2.1
theorem AX.cf {b c : S9} {g : GH} {S m d np pl0 pr pj wp : Nat} (h : AX b c g S m d np pl0 pr pj wp) : c.2.1 8 (g 0 S) = nI pl0 := h.2.2.2.2.2.2.2.2.2.2.1
theorem AX.pl {b c : S9} {g : GH} {S m d np pl0 pr pj wp : Nat} (h : AX b c g S m d np pl0 pr pj wp) : pl0 = csg g S := h.2.2.2.2.2.2.2.2.2.2.2
/-- a first block has been closed: an else may follow -/
def R1 (b c : S9) (g : GH) (S m d np pl pr pj wp s : Nat) (xu : Int32) : Prop := (SM b c g S m d np S (nI s) xu wp) ∧ (MR b c g S pl) ∧ (DF b c g S m d np pr pj (nI s)) ∧ (RM b.2.1 S m d np 1) ∧ (c.1 7 = 0) ∧ (s < S) ∧ (b.2.1 16 d = nI s) ∧ (b.2.1 2 s = 63) ∧ (g 6 s = 0) ∧ (b.2.1 7 s = -1) ∧ ((xu = -1 ∧ b.2.1 6 s = -1 ∧ g 0 s + 1 = m) ∨ ∃ t : Nat, xu = nI t ∧ t < S ∧ b.2.1 8 t = -1 ∧ b.2.1 5 t = nI s ∧ s < t ∧ g 2 t = g 2 s ∧ g 7 t = 0 ∧ g 1 t = m ∧ FIok b.2.1 g S s)
theorem R1.sm {b c : S9} {g : GH} {S m d np pl pr pj wp s : Nat} {xu : Int32} (h : R1 b c g S m d np pl pr pj wp s xu) : SM b c g S m d np S (nI s) xu wp := h.1
theorem R1.mr {b c : S9} {g : GH} {S m d np pl pr pj wp s : Nat} {xu : Int32} (h : R1 b c g S m d np pl pr pj wp s xu) : MR b c g S pl := h.2.1
theorem R1.df {b c : S9} {g : GH} {S m d np pl pr pj wp s : Nat} {xu : Int32} (h : R1 b c g S m d np pl pr pj wp s xu) : DF b c g S m d np pr pj (nI s) := h.2.2.1
theorem R1.rm {b c : S9} {g : GH} {S m d np pl pr pj wp s : Nat} {xu : Int32} (h : R1 b c g S m d np pl pr pj wp s xu) : RM b.2.1 S m d np 1 := h.2.2.2.1
theorem R1.o7 {b c : S9} {g : GH} {S m d np pl pr pj wp s : Nat} {xu : Int32} (h : R1 b c g S m d np pl pr pj wp s xu) : c.1 7 = 0 := h.2.2.2.2.1
theorem R1.sl {b c : S9} {g : GH} {S m d np pl pr pj wp s : Nat} {xu : Int32} (h : R1 b c g S m d np pl pr pj wp s xu) : s < S := h.2.2.2.2.2.1
theorem R1.ls {b c : S9} {g : GH} {S m d np pl pr pj wp s : Nat} {xu : Int32} (h : R1 b c g S m d np pl pr pj wp s xu) : b.2.1 16 d = nI s := h.2.2.2.2.2.2.1
theorem R1.k2 {b c : S9} {g : GH} {S m d np pl pr pj wp s : Nat} {xu : Int32} (h : R1 b c g S m d np pl pr pj wp s xu) : b.2.1 2 s = 63 := h.2.2.2.2.2.2.2.1
theorem R1.g6 {b c : S9} {g : GH} {S m d np pl pr pj wp s : Nat} {xu : Int32} (h : R1 b c g S m d np pl pr pj wp s xu) : g 6 s = 0 := h.2.2.2.2.2.2.2.2.1
theorem R1.b7 {b c : S9} {g : GH} {S m d np pl pr pj wp s : Nat} {xu : Int32} (h : R1 b c g S m d np pl pr pj wp s xu) : b.2.1 7 s = -1 := h.2.2.2.2.2.2.2.2.2.1
theorem R1.cl {b c : S9} {g : GH} {S m d np pl pr pj wp s : Nat} {xu : Int32} (h : R1 b c g S m d np pl pr pj wp s xu) : (xu = -1 ∧ b.2.1 6 s = -1 ∧ g 0 s + 1 = m) ∨ ∃ t : Nat, xu = nI t ∧ t < S ∧ b.2.1 8 t = -1 ∧ b.2.1 5 t = nI s ∧ s < t ∧ g 2 t = g 2 s ∧ g 7 t = 0 ∧ g 1 t = m ∧ FIok b.2.1 g S s := h.2.2.2.2.2.2.2.2.2.2
/-- a definition's block must come -/
def R6 (b c : S9) (g : GH) (S m np pl pr pj wp : Nat) : Prop := (SM b c g S m 0 np S (-1) (-1) wp) ∧ (MR b c g S pl) ∧ (m ≤ 2 * S + 2 * np + 1) ∧ (c.1 7 = 0) ∧ (b.1 8 = nI pr) ∧ (pr < 26) ∧ (b.2.1 13 pr = 0) ∧ (c.2.1 14 pr = nI (pj + 1)) ∧ (pj + 1 = m) ∧ (c.2.1 6 pj = 11) ∧ (g 4 pj = 4) ∧ (MN b.2.1 c.2.1 g S m pj) ∧ (∀ l : Nat, l < S → b.2.1 16 0 = nI l → JJ c.2.1 g m (g 1 l) pj) ∧ (b.2.1 12 pr = -1) ∧ (∀ h, h < m → g 4 h = 4 → h = pj) ∧ (∀ q, q < 26 → b.2.1 13 q = 0 → ¬ q = pr → b.2.1 12 q = -1)
theorem R6.sm {b c : S9} {g : GH} {S m np pl pr pj wp : Nat} (h : R6 b c g S m np pl pr pj wp) : SM b c g S m 0 np S (-1) (-1) wp := h.1
theorem R6.mr {b c : S9} {g : GH} {S m np pl pr pj wp : Nat} (h : R6 b c g S m np pl pr pj wp) : MR b c g S pl := h.2.1
theorem R6.rm {b c : S9} {g : GH} {S m np pl pr pj wp : Nat} (h : R6 b c g S m np pl pr pj wp) : m ≤ 2 * S + 2 * np + 1 := h.2.2.1
theorem R6.o7 {b c : S9} {g : GH} {S m np pl pr pj wp : Nat} (h : R6 b c g S m np pl pr pj wp) : c.1 7 = 0 := h.2.2.2.1
theorem R6.p8 {b c : S9} {g : GH} {S m np pl pr pj wp : Nat} (h : R6 b c g S m np pl pr pj wp) : b.1 8 = nI pr := h.2.2.2.2.1
theorem R6.pl6 {b c : S9} {g : GH} {S m np pl pr pj wp : Nat} (h : R6 b c g S m np pl pr pj wp) : pr < 26 := h.2.2.2.2.2.1
theorem R6.nd {b c : S9} {g : GH} {S m np pl pr pj wp : Nat} (h : R6 b c g S m np pl pr pj wp) : b.2.1 13 pr = 0 := h.2.2.2.2.2.2.1
theorem R6.en {b c : S9} {g : GH} {S m np pl pr pj wp : Nat} (h : R6 b c g S m np pl pr pj wp) : c.2.1 14 pr = nI (pj + 1) := h.2.2.2.2.2.2.2.1
theorem R6.jm {b c : S9} {g : GH} {S m np pl pr pj wp : Nat} (h : R6 b c g S m np pl pr pj wp) : pj + 1 = m := h.2.2.2.2.2.2.2.2.1
theorem R6.jc {b c : S9} {g : GH} {S m np pl pr pj wp : Nat} (h : R6 b c g S m np pl pr pj wp) : c.2.1 6 pj = 11 := h.2.2.2.2.2.2.2.2.2.1
theorem R6.jk {b c : S9} {g : GH} {S m np pl pr pj wp : Nat} (h : R6 b c g S m np pl pr pj wp) : g 4 pj = 4 := h.2.2.2.2.2.2.2.2.2.2.1
theorem R6.mn {b c : S9} {g : GH} {S m np pl pr pj wp : Nat} (h : R6 b c g S m np pl pr pj wp) : MN b.2.1 c.2.1 g S m pj := h.2.2.2.2.2.2.2.2.2.2.2.1
theorem R6.ml {b c : S9} {g : GH} {S m np pl pr pj wp : Nat} (h : R6 b c g S m np pl pr pj wp) : ∀ l : Nat, l < S → b.2.1 16 0 = nI l → JJ c.2.1 g m (g 1 l) pj := h.2.2.2.2.2.2.2.2.2.2.2.2.1
theorem R6.fs {b c : S9} {g : GH} {S m np pl pr pj wp : Nat} (h : R6 b c g S m np pl pr pj wp) : b.2.1 12 pr = -1 := h.2.2.2.2.2.2.2.2.2.2.2.2.2.1
theorem R6.ot {b c : S9} {g : GH} {S m np pl pr pj wp : Nat} (h : R6 b c g S m np pl pr pj wp) : ∀ h, h < m → g 4 h = 4 → h = pj := h.2.2.2.2.2.2.2.2.2.2.2.2.2.2.1
theorem R6.ue {b c : S9} {g : GH} {S m np pl pr pj wp : Nat} (h : R6 b c g S m np pl pr pj wp) : ∀ q, q < 26 → b.2.1 13 q = 0 → ¬ q = pr → b.2.1 12 q = -1 := h.2.2.2.2.2.2.2.2.2.2.2.2.2.2.2
/-- a second block must come -/
def R7 (b c : S9) (g : GH) (S m d np pl pr pj wp s : Nat) : Prop := (SM b c g S m d np S (nI s) (-1) wp) ∧ (MR b c g S pl) ∧ (DF b c g S m d np pr pj (nI s)) ∧ (RM b.2.1 S m d np 0) ∧ (c.1 7 = 0) ∧ (s < S) ∧ (b.2.1 16 d = nI s) ∧ (b.2.1 2 s = 63) ∧ (ELok b.2.1 c.2.1 g S m s) ∧ (b.2.1 7 s = -1) ∧ (g 3 s + 1 = m)
theorem R7.sm {b c : S9} {g : GH} {S m d np pl pr pj wp s : Nat} (h : R7 b c g S m d np pl pr pj wp s) : SM b c g S m d np S (nI s) (-1) wp := h.1
theorem R7.mr {b c : S9} {g : GH} {S m d np pl pr pj wp s : Nat} (h : R7 b c g S m d np pl pr pj wp s) : MR b c g S pl := h.2.1
theorem R7.df {b c : S9} {g : GH} {S m d np pl pr pj wp s : Nat} (h : R7 b c g S m d np pl pr pj wp s) : DF b c g S m d np pr pj (nI s) := h.2.2.1
theorem R7.rm {b c : S9} {g : GH} {S m d np pl pr pj wp s : Nat} (h : R7 b c g S m d np pl pr pj wp s) : RM b.2.1 S m d np 0 := h.2.2.2.1
theorem R7.o7 {b c : S9} {g : GH} {S m d np pl pr pj wp s : Nat} (h : R7 b c g S m d np pl pr pj wp s) : c.1 7 = 0 := h.2.2.2.2.1
theorem R7.sl {b c : S9} {g : GH} {S m d np pl pr pj wp s : Nat} (h : R7 b c g S m d np pl pr pj wp s) : s < S := h.2.2.2.2.2.1
theorem R7.ls {b c : S9} {g : GH} {S m d np pl pr pj wp s : Nat} (h : R7 b c g S m d np pl pr pj wp s) : b.2.1 16 d = nI s := h.2.2.2.2.2.2.1
theorem R7.k2 {b c : S9} {g : GH} {S m d np pl pr pj wp s : Nat} (h : R7 b c g S m d np pl pr pj wp s) : b.2.1 2 s = 63 := h.2.2.2.2.2.2.2.1
theorem R7.el {b c : S9} {g : GH} {S m d np pl pr pj wp s : Nat} (h : R7 b c g S m d np pl pr pj wp s) : ELok b.2.1 c.2.1 g S m s := h.2.2.2.2.2.2.2.2.1
theorem R7.b7 {b c : S9} {g : GH} {S m d np pl pr pj wp s : Nat} (h : R7 b c g S m d np pl pr pj wp s) : b.2.1 7 s = -1 := h.2.2.2.2.2.2.2.2.2.1
theorem R7.g3 {b c : S9} {g : GH} {S m d np pl pr pj wp s : Nat} (h : R7 b c g S m d np pl pr pj wp s) : g 3 s + 1 = m := h.2.2.2.2.2.2.2.2.2.2
abbrev TL : Type := List (Int32 × Int32)
noncomputable def BS (B : AR) (g : GH) (pj pr d : Nat) : TL := bsT B g (32 * pj + pr) d
noncomputable def bEq (B : AR) (g : GH) (S pj pr d : Nat) : TL := (5, 0) :: (14, nI (g 0 S)) :: (4, 59) :: BS B g pj pr d
noncomputable def bEx (B : AR) (g : GH) (S pj pr d : Nat) : TL := (14, nI (g 0 S)) :: (if B 2 S = 63 then (3, 0) :: (15, nI (g 0 S)) :: BS B g pj pr d else if B 2 S = 42 then (3, 0) :: (17, nI (g 0 S)) :: BS B g pj pr d else (4, 59) :: BS B g pj pr d)
def Q0 (b c : S9) (w th : TL) (j wp : Nat) : Prop := ∃ (g : GH) (S m d np pl pr pj : Nat), R0 b c g S m d np pl pr pj wp ∧ pl ≤ j ∧ th = BS b.2.1 g pj pr d
def Q1 (b c : S9) (w th : TL) (j wp : Nat) : Prop := ∃ (g : GH) (S m d np pl pr pj s : Nat) (xu : Int32), R1 b c g S m d np pl pr pj wp s xu ∧ pl ≤ j ∧ th = (15, nI (g 0 s)) :: BS b.2.1 g pj pr d
def Q2 (b c : S9) (w th : TL) (j wp : Nat) : Prop := ∃ (g : GH) (S m d np pl0 pl pr pj h f : Nat), AX b c g S m d np pl0 pr pj wp ∧ XQ b c S pl0 pl h f [] 0 true false h ∧ h + 1 = hfin (b.2.1 2 S) ∧ (b.2.1 2 S = 61 ∨ b.2.1 2 S = 64) ∧ pl + 1 ≤ j ∧ w = [] ∧ th = (4, 61) :: bEq b.2.1 g S pj pr d
def Q3 (b c : S9) (w th : TL) (j wp : Nat) : Prop := ∃ (g : GH) (S m d np pl0 pl pr pj h f : Nat) (due : Bool), AX b c g S m d np pl0 pr pj wp ∧ XR b c S pl0 pl h f w due true 0 ∧ b.2.1 2 S = 64 ∧ (due = false → ¬ pars w = 0) ∧ pl + w.length + 1 ≤ j ∧ th = xTh ((4, 61) :: bEq b.2.1 g S pj pr d) true w due
def Q4 (b c : S9) (w th : TL) (j wp : Nat) : Prop := ∃ (g : GH) (S m d np pl0 pl pr pj h f hb : Nat) (due : Bool), AX b c g S m d np pl0 pr pj wp ∧ XR b c S pl0 pl h f w due false hb ∧ hb + 1 = hfin (b.2.1 2 S) ∧ ¬ b.2.1 2 S = 65 ∧ pl + w.length + 1 ≤ j ∧ th = xTh (bEx b.2.1 g S pj pr d) false w due
def Q5 (b c : S9) (w th : TL) (j wp : Nat) : Prop := ∃ (g : GH) (S m d np pl pr pj : Nat), R0 b c g S m d np pl pr pj wp ∧ pl ≤ j ∧ th = (4, 59) :: BS b.2.1 g pj pr d
def Q6 (b c : S9) (w th : TL) (j wp : Nat) : Prop := ∃ (g : GH) (S m np pl pr pj : Nat), R6 b c g S m np pl pr pj wp ∧ pl ≤ j ∧ th = (3, 0) :: (18, nI (32 * pj + pr)) :: BS b.2.1 g pj pr 0
def Q7 (b c : S9) (w th : TL) (j wp : Nat) : Prop := ∃ (g : GH) (S m d np pl pr pj s : Nat), R7 b c g S m d np pl pr pj wp s ∧ pl ≤ j ∧ th = (3, 0) :: (16, nI (g 3 s)) :: BS b.2.1 g pj pr d
def QQ (b c : S9) (w th : TL) (j wp : Nat) : Prop := (b.1 7 = 0 ∧ Q0 b c w th j wp) ∨ (b.1 7 = 1 ∧ Q1 b c w th j wp) ∨ (b.1 7 = 2 ∧ Q2 b c w th j wp) ∨ (b.1 7 = 3 ∧ Q3 b c w th j wp) ∨ (b.1 7 = 4 ∧ Q4 b c w th j wp) ∨ (b.1 7 = 5 ∧ Q5 b c w th j wp) ∨ (b.1 7 = 6 ∧ Q6 b c w th j wp) ∨ (b.1 7 = 7 ∧ Q7 b c w th j wp)
/-- the word at hand -/
def WH (b c : S9) (j p : Nat) (x kd v : Int32) : Prop := (WK x kd v b.2.2) ∧ (wd c j kd) ∧ (c.2.1 2 j = v) ∧ (c.2.1 3 j = nI p) ∧ (b.1 10 = nI p) ∧ (p < 3000) ∧ (j < 3000) ∧ (∀ (w : TL) (σ : S9) (F : Int32 → S9 → Prop), kd = 4 → Cs b w σ → (c.2.1 1 (j + 1) = 223 → F 1 σ) → (¬ c.2.1 1 (j + 1) = 223 → F 0 σ) → wp_X9_braceFollows σ F)
theorem WH.wk {b c : S9} {j p : Nat} {x kd v : Int32} (h : WH b c j p x kd v) : WK x kd v b.2.2 := h.1
theorem WH.wd {b c : S9} {j p : Nat} {x kd v : Int32} (h : WH b c j p x kd v) : wd c j kd := h.2.1
theorem WH.v {b c : S9} {j p : Nat} {x kd v : Int32} (h : WH b c j p x kd v) : c.2.1 2 j = v := h.2.2.1
theorem WH.pl {b c : S9} {j p : Nat} {x kd v : Int32} (h : WH b c j p x kd v) : c.2.1 3 j = nI p := h.2.2.2.1
theorem WH.p10 {b c : S9} {j p : Nat} {x kd v : Int32} (h : WH b c j p x kd v) : b.1 10 = nI p := h.2.2.2.2.1
theorem WH.p3 {b c : S9} {j p : Nat} {x kd v : Int32} (h : WH b c j p x kd v) : p < 3000 := h.2.2.2.2.2.1
theorem WH.j3 {b c : S9} {j p : Nat} {x kd v : Int32} (h : WH b c j p x kd v) : j < 3000 := h.2.2.2.2.2.2.1
theorem WH.bf {b c : S9} {j p : Nat} {x kd v : Int32} (h : WH b c j p x kd v) : ∀ (w : TL) (σ : S9) (F : Int32 → S9 → Prop), kd = 4 → Cs b w σ → (c.2.1 1 (j + 1) = 223 → F 1 σ) → (¬ c.2.1 1 (j + 1) = 223 → F 0 σ) → wp_X9_braceFollows σ F := h.2.2.2.2.2.2.2
def wAcc (P : S9 → (Int32 → S9 → Prop) → Prop) (b c : S9) (w th : TL) (j p : Nat) : Prop :=
  ∃ (b' c' : S9) (w' th' : TL), QQ b' c' w' th' (j + 1) (p + 1) ∧ WFb b b' ∧ WFc c c' ∧ c'.1 3 = nI (j + 1) ∧ c'.1 4 = -1 ∧ (∀ (σ : S9) (Φ : Int32 → S9 → Prop), Cs b w σ → (∀ σ', Cs b' w' σ' → Φ 1 σ') → P σ Φ) ∧ ∀ Ψ : Int32 → S9 → Prop, MG c' th' Ψ → MG c th Ψ
def wRej (P : S9 → (Int32 → S9 → Prop) → Prop) (b c : S9) (w th : TL) (j : Nat) : Prop :=
  ∃ (b' : S9) (w' : TL), WFb b b' ∧ (∀ (σ : S9) (Φ : Int32 → S9 → Prop), Cs b w σ → (∀ σ', Cs b' w' σ' → Φ 0 σ') → P σ Φ) ∧ MFail c th j
theorem RM_m {B : AR} {S m d np x : Nat} (h : RM B S m d np x) (hS : S ≤ 300) (hn : np ≤ 26) : m + x ≤ 653 := by
  unfold RM at h
  split at h <;> omega
/-! a step is begun -/
theorem ow_get {b c : S9} {g : GH} {S m d np T wp l : Nat} {xo xu : Int32} (h : SM b c g S m d np T xo xu wp) (hS : S ≤ 300) (hl : l < S) (h1 : b.2.1 16 d = nI l) : g 2 l = ow1 b.2.1 d np ∧ b.2.1 8 l = -1 ∧ b.2.1 5 l = b.2.1 14 d := by
  rcases h.lv.2.2 d (Nat.le_refl _) with q | ⟨l', l1, l2, l3, l4, l5, l6⟩
  · rw [h1] at q; exact absurd q (nIm1 (by omega))
  · have e := nIj (by omega) (by omega) (l1.symm.trans h1)
    subst e
    exact ⟨l5, l3, l4⟩
theorem lv15 {b c : S9} {g : GH} {S m d np T wp : Nat} {xo xu : Int32} (h : SM b c g S m d np T xo xu wp) {e : Nat} (h1 : 1 ≤ e) (h2 : e ≤ d) : (b.2.1 14 e = -1 ∧ e = 1) ∨ ∃ o : Nat, o < S ∧ b.2.1 14 e = nI o ∧ b.2.1 16 (e - 1) = nI o ∧ OPN b.2.1 c.2.1 g S m e o := by
  rcases h.lv.2.1 e h1 h2 with ⟨q1, q2⟩ | ⟨o, q1, q2, q3, q4, q5⟩
  · subst q1; exact Or.inl ⟨q2, rfl⟩
  · exact Or.inr ⟨o, q2, q1, q3, q5⟩
theorem OPN_15 {B C : AR} {g : GH} {S m e o : Nat} (h : OPN B C g S m e o) : B 15 e = 0 ∨ B 15 e = 1 := h.elim (fun q => Or.inl q.1) (fun q => Or.inr q.1)
theorem csg_pl {b c : S9} {g : GH} {S m d np T wp : Nat} {xo xu : Int32} (h : SM b c g S m d np T xo xu wp) {s : Nat} (hs : 1 ≤ s) (hT : s ≤ T) : b.2.1 9 (s - 1) = nI (csg g s) := by
  have q := (h.cd (s - 1) (by omega)).1
  unfold csg
  rw [if_neg (by omega)]; exact q
/-- the class adds step S -/
theorem a_step {b c : S9} {g : GH} {S m d np pl pr pj wp p : Nat} {kd tg : Int32} {w : TL} (h : R0 b c g S m d np pl pr pj wp) (hS : S < 300) (h10 : b.1 10 = nI p) (hkd : vp_nar .char kd = kd) :
    ∃ (b' : S9) (prc : Nat), (b.1 8 = nI prc ∧ prc ≤ 26) ∧ ADDB b.2.1 b'.2.1 S d prc pl kd (nI p) tg ∧ ASf b b' S ∧ ∀ (σ : S9) (Φ : Int32 → S9 → Prop), Cs b w σ → (∀ σ', Cs b' [] σ' → Φ 1 σ') → wp_X0_addsStep kd tg σ Φ := by
  obtain ⟨n1, n2, n3, n4, n5, n6, n7, n8, n9, n10, n11⟩ := h.sm.num
  have hp8 : ∃ prc, b.1 8 = nI prc ∧ prc ≤ 26 := by
    by_cases z : inD b.2.1 d
    · exact ⟨pr, (h.df.1 z).p8, by have := (h.df.1 z).pl; omega⟩
    · exact ⟨26, (h.df.2 z).p8, Nat.le_refl _⟩
  obtain ⟨prc, hp1, hp2⟩ := hp8
  have hl : b.2.1 16 d = -1 ∨ ∃ l : Nat, l < S ∧ b.2.1 16 d = nI l := by
    rcases h.sm.lv.2.2 d (Nat.le_refl _) with q | ⟨l, l1, l2, -⟩
    · exact Or.inl q
    · exact Or.inr ⟨l, l2, l1⟩
  have ho : b.2.1 14 d = -1 ∨ ∃ o : Nat, o < S ∧ b.2.1 14 d = nI o ∧ (b.2.1 15 d = 0 ∨ b.2.1 15 d = 1) := by
    by_cases e : d = 0
    · subst e; exact Or.inl h.sm.lv.1
    · rcases lv15 h.sm (e := d) (by omega) (Nat.le_refl _) with ⟨q, -⟩ | ⟨o, q1, q2, -, q3⟩
      · exact Or.inl q
      · exact Or.inr ⟨o, q1, q2, OPN_15 q3⟩
  have hpl : S = 0 → pl = 0 := fun e => by rw [h.mr.2.1, e]; rfl
  have hpl1 : 1 ≤ S → b.2.1 9 (S - 1) = nI pl := fun e => by rw [h.mr.2.1]; exact csg_pl h.sm e (Nat.le_refl _)
  obtain ⟨b', q1, q2, q3⟩ := s_addsStep (w := w) (tg := tg) n1 hS n4 n6 hp1 hp2 h10 hkd hpl hpl1 hl ho
  exact ⟨b', prc, ⟨hp1, hp2⟩, q1, q2, q3⟩
