/-! what holds between the class's memory and the reference's -/
/-- a net: points, lines, and of each line kind, figure, lesser point, greater one -/
abbrev Gr : Type := Nat × Nat × (Nat → Nat) × (Nat → Nat) × (Nat → Nat) × (Nat → Nat)
abbrev gP (G : Gr) : Nat := G.1
abbrev gN (G : Gr) : Nat := G.2.1
abbrev gK (G : Gr) : Nat → Nat := G.2.2.1
abbrev gF (G : Gr) : Nat → Nat := G.2.2.2.1
abbrev gA (G : Gr) : Nat → Nat := G.2.2.2.2.1
abbrev gB (G : Gr) : Nat → Nat := G.2.2.2.2.2
def GrOk (G : Gr) : Prop := gP G ≤ 6 ∧ gN G ≤ 10 ∧ (∀ l, l < gN G → gK G l < 5 ∧ 1 ≤ gF G l ∧ gF G l ≤ 3 ∧ gA G l < gB G l ∧ gB G l < gP G) ∧ ∀ l k, l < gN G → k < gN G → gA G l = gA G k → gB G l = gB G k → l = k
def NetX (M : Mem) (c : Nat) (G : Gr) (z : Int32) (ls : Nat → Int64) : Prop := M.1 c 0 = nI (gP G) ∧ M.1 c 1 = nI (gN G) ∧ M.1 c 2 = z ∧ (∀ l, l < gN G → M.1 (c + 1) l = nI (gK G l) ∧ M.1 (c + 2) l = nI (gF G l) ∧ M.1 (c + 3) l = nI (gA G l) ∧ M.1 (c + 4) l = nI (gB G l)) ∧ ∀ p, p < gP G → M.2 (c + 5) p = ls p
def NetM (M : Mem) (G : Gr) (z : Int32) (ls : Nat → Int64) : Prop := M.1 0 0 = nI (gP G) ∧ M.1 0 1 = nI (gN G) ∧ M.1 0 2 = z ∧ (∀ l, l < gN G → M.1 1 l = nI (gK G l) ∧ M.1 2 l = nI (gF G l) ∧ M.1 3 l = nI (gA G l) ∧ M.1 4 l = nI (gB G l)) ∧ ∀ p, p < gP G → M.2 5 p = ls p
/-- what the reference keeps (k 0: the image, 1: before a text) -/
def KeptM (M : Mem) (k : Nat) (G : Gr) (z : Int32) (ls : Nat → Int64) : Prop := M.1 23 (3 * k) = nI (gP G) ∧ M.1 23 (3 * k + 1) = nI (gN G) ∧ M.1 23 (3 * k + 2) = z ∧ (∀ l, l < gN G → M.1 24 (40 * k + 4 * l) = nI (gK G l) ∧ M.1 24 (40 * k + 4 * l + 1) = nI (gF G l) ∧ M.1 24 (40 * k + 4 * l + 2) = nI (gA G l) ∧ M.1 24 (40 * k + 4 * l + 3) = nI (gB G l)) ∧ ∀ p, p < gP G → M.2 25 (6 * k + p) = ls p
def Img (Mx Mm : Mem) : Prop := Mx.1 0 3 = Mm.1 0 43 ∧ (Mm.1 0 43 = 0 ∨ Mm.1 0 43 = 1 ∧ ∃ G z ls, GrOk G ∧ NetX Mx 7 G z ls ∧ KeptM Mm 0 G z ls)
def HolOk (Mx Mm : Mem) (h : Nat) : Prop := Mx.1 (35 + h) 0 = Mm.1 11 h ∧ (Mm.1 11 h = 0 ∨ Mm.1 11 h = 1 ∧ Mx.2 (35 + h) 1 = Mm.2 15 h ∧ Mx.2 (35 + h) 2 = Mm.2 16 h ∧ 0 < Mm.2 16 h ∨ Mm.1 11 h = 2 ∧ Mx.1 (35 + h) 3 = Mm.1 12 h ∧ Mx.1 (35 + h) 4 = Mm.1 13 h ∨ Mm.1 11 h = 3 ∧ Mx.1 (35 + h) 5 = Mm.1 14 h ∧ Mx.2 (35 + h) 6 = Mm.2 17 h)
def Hol (Mx Mm : Mem) : Prop := ∀ h, h < 4 → HolOk Mx Mm h
def SheOk (Mx Mm : Mem) (s : Nat) : Prop := Mx.1 (40 + 2 * s) 0 = Mm.1 20 s ∧ (Mm.1 20 s = -1 ∨ (Mm.1 20 s = 0 ∨ Mm.1 20 s = 1) ∧ ∃ n : Nat, n ≤ 40 ∧ Mx.1 (40 + 2 * s) 1 = nI n ∧ Mm.1 21 s = nI n ∧ ∀ i, i < n → Mx.2 (41 + 2 * s) i = Mm.2 22 (40 * s + i))
def She (Mx Mm : Mem) : Prop := ∀ s, s < 4 → SheOk Mx Mm s
def Tap (Mx Mm : Mem) : Prop := ∃ t : Nat, t ≤ 120 ∧ Mx.1 31 0 = nI t ∧ Mm.1 0 31 = nI t ∧ ∀ i, i < t → Mx.1 32 i = Mm.1 18 i
