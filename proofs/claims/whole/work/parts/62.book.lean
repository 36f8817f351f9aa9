/-! the class's book of rings: what it holds of a net (kept until the lines change) -/
def BkC (_M : Mem) (_G : Gr) : Prop := True
def Bk (M : Mem) (G : Gr) : Prop := (M.1 19 5 = 0 ∨ M.1 19 5 = 1) ∧ (M.1 19 6 = 0 ∨ M.1 19 6 = 1) ∧ BkC M G
theorem Bk.ag {M M' : Mem} {G : Gr} (h : Bk M G) (ha : ∀ a, 19 ≤ a → a ≤ 25 → M'.1 a = M.1 a) : Bk M' G := by
  unfold Bk at *
  rw [ha 19 (by omega) (by omega)]
  exact h
theorem Bk.zero {M : Mem} {G : Gr} (h5 : M.1 19 5 = 0) (h6 : M.1 19 6 = 0) : Bk M G := ⟨Or.inl h5, Or.inl h6, trivial⟩
theorem Bk.pts {M : Mem} {G G' : Gr} (h : Bk M G) (_e : G'.2 = G.2) : Bk M G' := h
