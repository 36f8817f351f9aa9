/-! the class's book of rings: what it holds of a net (kept until the lines change) -/
def BkC (M : Mem) (G : Gr) : Prop := (M.1 19 5 = 1 → RgX M G) ∧ (M.1 19 6 = 1 → M.1 19 5 = 1 ∧ RtX M G)
def Bk (M : Mem) (G : Gr) : Prop := (M.1 19 5 = 0 ∨ M.1 19 5 = 1) ∧ (M.1 19 6 = 0 ∨ M.1 19 6 = 1) ∧ BkC M G
theorem Bk.ag {M M' : Mem} {G : Gr} (h : Bk M G) (ha : ∀ a, 19 ≤ a → a ≤ 25 → M'.1 a = M.1 a) : Bk M' G := by
  unfold Bk BkC RgX RtX at *
  rw [ha 19 (by omega) (by omega), ha 20 (by omega) (by omega), ha 21 (by omega) (by omega), ha 23 (by omega) (by omega), ha 24 (by omega) (by omega), ha 25 (by omega) (by omega)]
  exact h
theorem Bk.zero {M : Mem} {G : Gr} (h5 : M.1 19 5 = 0) (h6 : M.1 19 6 = 0) : Bk M G := ⟨Or.inl h5, Or.inl h6, fun h => by rw [h5] at h; exact absurd h (by decide), fun h => by rw [h6] at h; exact absurd h (by decide)⟩
theorem Bk.pts {M : Mem} {G G' : Gr} (h : Bk M G) (e : G'.2 = G.2) : Bk M G' := by
  obtain ⟨P, X⟩ := G
  obtain ⟨P', X'⟩ := G'
  have e : X' = X := e
  subst e
  exact h
