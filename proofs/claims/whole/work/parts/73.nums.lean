/-! longs as whole numbers; common parts -/
theorem jt_add (a b : Int64) : (a + b).toInt = (a.toInt + b.toInt).bmod (2 ^ 64) := Int64.toInt_add a b
theorem jt_sub (a b : Int64) : (a - b).toInt = (a.toInt - b.toInt).bmod (2 ^ 64) := Int64.toInt_sub a b
theorem jt_mul (a b : Int64) : (a * b).toInt = (a.toInt * b.toInt).bmod (2 ^ 64) := Int64.toInt_mul a b
theorem jt_neg (a : Int64) : (-a).toInt = (-a.toInt).bmod (2 ^ 64) := Int64.toInt_neg a
theorem jt_div (a b : Int64) : (a / b).toInt = (a.toInt.tdiv b.toInt).bmod (2 ^ 64) := Int64.toInt_div a b
theorem jt_lo (a : Int64) : -(2 : Int) ^ 63 ≤ a.toInt := Int64.le_toInt a
theorem jt_hi (a : Int64) : a.toInt < (2 : Int) ^ 63 := Int64.toInt_lt a
theorem it_lo (a : Int32) : -(2 : Int) ^ 31 ≤ a.toInt := Int32.le_toInt a
theorem it_hi (a : Int32) : a.toInt < (2 : Int) ^ 31 := Int32.toInt_lt a
theorem bm64 {x : Int} (h1 : -(2 : Int) ^ 63 ≤ x) (h2 : x < (2 : Int) ^ 63) : x.bmod (2 ^ 64) = x := Int.bmod_eq_of_le (by omega) (by omega)
theorem bm32 {x : Int} (h1 : -(2 : Int) ^ 31 ≤ x) (h2 : x < (2 : Int) ^ 31) : x.bmod (2 ^ 32) = x := Int.bmod_eq_of_le (by omega) (by omega)
theorem bms (a x y : Int) (n : Nat) : (a - x.bmod n * y).bmod n = (a - x * y).bmod n := by
  rw [← Int.sub_bmod_bmod, Int.bmod_mul_bmod, Int.sub_bmod_bmod]
theorem jt_rem (a b : Int64) : (a - a / b * b).toInt = a.toInt.tmod b.toInt := by
  rw [jt_sub, jt_mul, jt_div, Int.sub_bmod_bmod, bms, show a.toInt - a.toInt.tdiv b.toInt * b.toInt = a.toInt.tmod b.toInt by rw [Int.tmod_def, Int.mul_comm], ← Int64.toInt_mod]
  exact bm64 (jt_lo _) (jt_hi _)
theorem it_rem (a b : Int32) : (a - a / b * b).toInt = a.toInt.tmod b.toInt := by
  rw [Int32.toInt_sub, Int32.toInt_mul, Int32.toInt_div, Int.sub_bmod_bmod, bms, show a.toInt - a.toInt.tdiv b.toInt * b.toInt = a.toInt.tmod b.toInt by rw [Int.tmod_def, Int.mul_comm], ← Int32.toInt_mod]
  exact bm32 (it_lo _) (it_hi _)
theorem j0 (x : Int64) : x = 0 ↔ x.toInt = 0 := by rw [j_eq]; rfl
theorem i0 (x : Int32) : x = 0 ↔ x.toInt = 0 := by rw [i_eq]; rfl
def EuM (n x y : Nat) : Prop := (y ≤ x ∧ x * y < 2 ^ n) ∨ (x < y ∧ 1 ≤ n ∧ x * y < 2 ^ (n - 1))
theorem eu_step {n x y : Nat} (h : EuM n x y) (hy : y ≠ 0) : ∃ m, m < n ∧ EuM m y (x % y) := by
  have hr : x % y < y := Nat.mod_lt _ (by omega)
  rcases h with ⟨h1, h2⟩ | ⟨h1, h2, h3⟩
  · have hn : n ≠ 0 := by
      intro e
      subst e
      have : 1 ≤ x * y := Nat.mul_pos (by omega) (by omega)
      omega
    refine ⟨n - 1, by omega, Or.inl ⟨by omega, ?_⟩⟩
    have e : x = y * (x / y) + x % y := (Nat.div_add_mod x y).symm
    have hd : 1 ≤ x / y := Nat.div_pos h1 (by omega)
    have h3 : y ≤ y * (x / y) := Nat.le_mul_of_pos_right y hd
    have h4 : 2 * (x % y) ≤ x := by omega
    have h5 : y * (2 * (x % y)) ≤ y * x := Nat.mul_le_mul_left y h4
    have h6 : y * (2 * (x % y)) = 2 * (y * (x % y)) := by rw [Nat.mul_left_comm]
    have h7 : y * x = x * y := Nat.mul_comm _ _
    have h8 : 2 ^ n = 2 * 2 ^ (n - 1) := by rw [show n = (n - 1) + 1 by omega, Nat.pow_succ]; simp; omega
    omega
  · refine ⟨n - 1, by omega, Or.inl ⟨by omega, ?_⟩⟩
    rw [Nat.mod_eq_of_lt h1, Nat.mul_comm]; exact h3
theorem eu_0 {x y : Nat} (hx : x ≤ 2 ^ 63) (hy : y ≤ 2 ^ 63) : EuM 128 x y := by
  have h : x * y ≤ 2 ^ 63 * 2 ^ 63 := Nat.mul_le_mul hx hy
  have h2 : (2 : Nat) ^ 63 * 2 ^ 63 < 2 ^ 127 := by decide
  have h3 : (2 : Nat) ^ 127 < 2 ^ 128 := by decide
  by_cases c : y ≤ x
  · exact Or.inl ⟨c, by omega⟩
  · exact Or.inr ⟨by omega, by omega, by show x * y < 2 ^ 127; omega⟩
theorem gcd_st (x y : Nat) : Nat.gcd y (x % y) = Nat.gcd x y := by
  rw [Nat.gcd_comm, ← Nat.gcd_rec, Nat.gcd_comm]
/-- one side of 0 -/
def Sd (x y : Int) : Prop := 0 ≤ x ∧ 0 ≤ y ∨ x ≤ 0 ∧ y ≤ 0
theorem Sd.st {x y : Int} (h : Sd x y) : Sd y (x.tmod y) := by
  rcases h with ⟨h1, h2⟩ | ⟨h1, h2⟩
  · exact Or.inl ⟨h2, Int.tmod_nonneg _ h1⟩
  · refine Or.inr ⟨h2, ?_⟩
    have := Int.tmod_nonneg (a := -x) y (by omega)
    rw [Int.neg_tmod] at this
    omega
theorem abs_le (x : Int64) : x.toInt.natAbs ≤ 2 ^ 63 := by have := jt_lo x; have := jt_hi x; omega
theorem abs_leI (x : Int32) : x.toInt.natAbs ≤ 2 ^ 63 := by have := it_lo x; have := it_hi x; omega
theorem gcd_abs (x y : Int) : Nat.gcd y.natAbs (x.tmod y).natAbs = Nat.gcd x.natAbs y.natAbs := by rw [Int.natAbs_tmod, gcd_st]
def OKs {α : Type} (Q : α → Prop) (o : Option α) : Prop := ∃ g, o = some g ∧ Q g
/-- g is the common part of x and y, on their side of 0 -/
def GcdQ (x y g : Int) : Prop := g.natAbs = Nat.gcd x.natAbs y.natAbs ∧ (0 < x ∨ 0 < y → 0 < g) ∧ (x < 0 ∨ y < 0 → g < 0)
def GcdJ (x y : Int) (n : Nat) (u v : Int) : Prop := EuM n u.natAbs v.natAbs ∧ Nat.gcd u.natAbs v.natAbs = Nat.gcd x.natAbs y.natAbs ∧ Sd u v ∧ (0 < x ∨ 0 < y → 0 < u ∨ 0 < v) ∧ (x < 0 ∨ y < 0 → u < 0 ∨ v < 0)
theorem GcdJ.fin {x y : Int} {n : Nat} {u : Int} (h : GcdJ x y n u 0) : GcdQ x y u := by
  obtain ⟨-, h1, h2, h3, h4⟩ := h
  refine ⟨by rw [← h1]; exact (Nat.gcd_zero_right _).symm, fun q => by have := h3 q; omega, fun q => by have := h4 q; omega⟩
theorem GcdJ.st {x y : Int} {n : Nat} {u v : Int} (h : GcdJ x y n u v) (hv : v ≠ 0) : ∃ m, m < n ∧ GcdJ x y m v (u.tmod v) := by
  obtain ⟨h0, h1, h2, h3, h4⟩ := h
  obtain ⟨m, m1, m2⟩ := eu_step h0 (by omega)
  refine ⟨m, m1, by rw [Int.natAbs_tmod]; exact m2, by rw [gcd_abs]; exact h1, h2.st, fun q => ?_, fun q => ?_⟩
  · have h5 := h3 q
    unfold Sd at h2
    left; omega
  · have h5 := h4 q
    unfold Sd at h2
    left; omega
theorem GcdJ.ini {x y : Int} (h : Sd x y) (hx : x.natAbs ≤ 2 ^ 63) (hy : y.natAbs ≤ 2 ^ 63) : GcdJ x y 128 x y := ⟨eu_0 hx hy, rfl, h, fun q => q, fun q => q⟩
theorem cp_e {N : Nat} {M : Mem} (hN : 2000 ≤ N) (x y : Int64) (h : Sd x.toInt y.toInt) : OKs (fun g => GcdQ x.toInt y.toInt g.toInt) (f_X7_commonPart N x y M) := by
  unfold f_X7_commonPart
  refine lp_S (fun n (a : Int64 × Int64 × Int32) => GcdJ x.toInt y.toInt n a.1.toInt a.2.1.toInt ∧ ∃ k, k + n ≤ 128 ∧ a.2.2 = nI k) (fun n a rc hJ => ?_) N 128 _ ⟨GcdJ.ini h (abs_le _) (abs_le _), 0, by omega, rfl⟩ (by omega)
  obtain ⟨u, v, k⟩ := a
  obtain ⟨j1, k', j6, j7⟩ := hJ
  dsimp only at j1 j7 ⊢
  subst j7
  by_cases c : v = 0
  · left
    rw [if_pos ((lg_eq v 0).mpr c)]
    rw [(j0 v).mp c] at j1
    exact ⟨u, rfl, j1.fin⟩
  · right
    have c' : v.toInt ≠ 0 := fun q => c ((j0 v).mpr q)
    rw [if_neg (fun q => c ((lg_eq v 0).mp q)), if_neg (show ¬ (200 : Int32) ≤ nI k' from nI_ge (b := 200) (by omega) (by decide)), ck_t c, nm_e1, nm_e1, nI_1]
    obtain ⟨m, m1, m2⟩ := j1.st c'
    exact ⟨m, (v, u - u / v * v, nI (k' + 1)), m1, ⟨by rw [jt_rem]; exact m2, k' + 1, by omega, rfl⟩, rfl⟩
