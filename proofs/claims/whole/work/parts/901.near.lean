/-! next: the class -/
theorem minLN {N a b : Nat} {M : Mem} (ha : a < 2 ^ 63) (hb : b < 2 ^ 63) : f_J9_min_f86c9 N (lN a) (lN b) M = some (lN (if a ≤ b then a else b)) := by
  unfold f_J9_min_f86c9
  by_cases h : a ≤ b
  · rw [if_neg (by rw [lg_gt, pk_lLT hb ha]; omega), if_pos h]
  · rw [if_pos (by rw [lg_gt, pk_lLT hb ha]; omega), if_neg h]
theorem lN_ne0 {a : Nat} (h : 0 < a) (h2 : a < 2 ^ 63) : ¬ lN a = 0 := fun q => by
  have := (pk_lEQ (b := 0) h2 (by omega)).mp q
  omega
theorem nbX {N : Nat} (hN : 2000 ≤ N) {M : Mem} {x y n P : Nat} (hx : x ≤ 100000000) (hy : y ≤ 100000000) (hn : n ≤ 9999) (hP : P ≤ 10000) (h0 : FI x y n P 0 1 1 0) (s t : Int32) : ∃ a b c d, FI x y n P a b c d ∧ n < b + d ∧ a < 2 ^ 31 ∧ c < 2 ^ 31 ∧ f_X7_neighbour N (lN x) (lN y) (nI n) s t M = some (if s = 0 then (if t = 0 then nI a else nI b) else (if t = 0 then nI c else nI d)) := by
  unfold f_X7_neighbour
  refine lp_S (S := fun o => ∃ a b c d, FI x y n P a b c d ∧ n < b + d ∧ a < 2 ^ 31 ∧ c < 2 ^ 31 ∧ o = some (if s = 0 then (if t = 0 then nI a else nI b) else (if t = 0 then nI c else nI d))) (fun m (q : Int64 × Int64 × Int64 × Int64 × Int32 × Int32) => ∃ a b c d k, FI x y n P a b c d ∧ ((m = 0 ∧ n < b + d ∧ q = (lN a, lN b, lN c, lN d, 0, nI k)) ∨ (m = 1 ∧ n < b + d ∧ k ≤ 15 ∧ q = (lN a, lN b, lN c, lN d, 1, nI k)) ∨ (m + k = 40 ∧ b + d ≤ n ∧ k ≤ 14 ∧ FQ x y n k a b c d ∧ q = (lN a, lN b, lN c, lN d, 1, nI k)))) (fun m q rc hJ => ?_) N 40 _ ⟨0, 1, 1, 0, 0, h0, Or.inr (Or.inr ⟨by omega, by have := h0.2.2.1; omega, by omega, Or.inr ⟨by have := h0.2.2.1; omega, by omega, Or.inl ⟨rfl, rfl, rfl⟩⟩, rfl⟩)⟩ (by omega)
  obtain ⟨a, b, c, d, k, hI, hcase⟩ := hJ
  have size : ∀ a b c d, FI x y n P a b c d → a < 100000000 ∧ c ≤ 100000000 ∧ b ≤ 9999 ∧ d ≤ 9999 ∧ x * b ≤ 1000000000000 ∧ y * a ≤ 10000000000000000 ∧ y * c ≤ 10000000000000000 ∧ x * d ≤ 1000000000000 := by
    intro a b c d hI
    have h1 := hI.ba
    have h2 := hI.bc
    have h3 := hI.2.2.1
    have h4 := hI.2.2.2.1
    have e1 : P * b ≤ 10000 * 9999 := Nat.mul_le_mul hP (by omega)
    have e2 : P * d ≤ 10000 * 9999 := Nat.mul_le_mul hP (by omega)
    have e3 : x * b ≤ 100000000 * 10000 := Nat.mul_le_mul hx (by omega)
    have e4 : y * a ≤ 100000000 * 100000000 := Nat.mul_le_mul hy (by omega)
    have e5 : y * c ≤ 100000000 * 100000000 := Nat.mul_le_mul hy (by omega)
    have e6 : x * d ≤ 100000000 * 10000 := Nat.mul_le_mul hx (by omega)
    exact ⟨by omega, by omega, by omega, by omega, by omega, by omega, by omega, by omega⟩
  obtain ⟨z1, z2, z3, z4, z5, z6, z7, z8⟩ := size _ _ _ _ hI
  have res : ∀ kk : Int32, n < b + d → ∃ a' b' c' d', FI x y n P a' b' c' d' ∧ n < b' + d' ∧ a' < 2 ^ 31 ∧ c' < 2 ^ 31 ∧ (if s = 0 then (if t = 0 then (some (lN a).toInt32) else (some (lN b).toInt32)) else (if t = 0 then (some (lN c).toInt32) else (some (lN d).toInt32))) = some (if s = 0 then (if t = 0 then nI a' else nI b') else (if t = 0 then nI c' else nI d')) := by
    intro kk hh
    refine ⟨a, b, c, d, hI, hh, by omega, by omega, ?_⟩
    rw [lN_i, lN_i, lN_i, lN_i]
    by_cases q1 : s = 0 <;> by_cases q2 : t = 0 <;> simp [q1, q2]
  rcases hcase with ⟨rfl, hh, rfl⟩ | hcase
  · left
    dsimp only
    rw [jn_e, if_pos rfl]
    exact res 0 hh
  right
  have hmv : FQ x y n k a b c d ∧ k ≤ 15 ∧ q = (lN a, lN b, lN c, lN d, 1, nI k) := by
    rcases hcase with ⟨-, q2, q3, q4⟩ | ⟨-, -, q1, q2, q3⟩
    · exact ⟨Or.inl q2, q3, q4⟩
    · exact ⟨q2, by omega, q3⟩
  obtain ⟨hFQ, hk, rfl⟩ := hmv
  obtain ⟨u, hu⟩ : ∃ u, u = upN x y n a b c d := ⟨_, rfl⟩
  obtain ⟨w, hw⟩ : ∃ w, w = dnN x y n (a + u * c) (b + u * d) c d := ⟨_, rfl⟩
  obtain ⟨hA, hB, hC⟩ := hFQ.st hI hu hw
  obtain ⟨y1, y2, y3, y4, y5, y6, y7, y8⟩ := size _ _ _ _ hA
  obtain ⟨x1, x2, x3, x4, x5, x6, x7, x8⟩ := size _ _ _ _ hB
  have key : ∀ mv : Int32, mv = (if 0 < u ∨ 0 < w then 1 else 0) → (nm ((lN x * lN b) - (lN y * lN a)) (fun v1 => nm ((lN y * lN c) - (lN x * lN d)) (fun v2 => jn (fun (a70 : Int64) => jn (fun (a95 : Int64) => nm (lN a + (a95 * lN c)) (fun v3 => nm (lN b + (a95 * lN d)) (fun v4 => nm ((lN x * v4) - (lN y * v3)) (fun v5 => jn (fun (a163 : Int64) => nm (lN c + (a163 * v3)) (fun v6 => nm (lN d + (a163 * v4)) (fun v7 => jn (fun (a204 : Int32) => nm (nI k + (1 : Int32)) (fun v8 => rc (v3, v4, v6, v7, a204, v8))) (fun (k204 : Int32 → Option (Int32)) => jn (fun (a199 : Unit) => k204 (1 : Int32)) (fun (k199 : Unit → Option (Int32)) => if 0 < (lg_cmp a95 (0 : Int64)) then (k199 ()) else (if (lg_cmp a163 (0 : Int64)) ≤ 0 then (k204 (0 : Int32)) else (k199 ()))))))) (fun (k163 : Int64 → Option (Int32)) => jn (fun (a140 : Unit) => k163 (0 : Int64)) (fun (k140 : Unit → Option (Int32)) => if (lg_cmp v5 (1 : Int64)) < 0 then (k140 ()) else (if 0 ≤ (lg_cmp v4 (1 : Int64)) then (ck (¬ v5 = 0) (ck (¬ v4 = 0) (bd (f_J9_min_f86c9 N ((v2 - (1 : Int64)) / v5) (((nI n).toInt64 - lN d) / v4) M) (fun v9 => k163 v9)))) else (k140 ())))))))) (fun (k95 : Int64 → Option (Int32)) => if (lg_cmp (lN d) (0 : Int64)) ≤ 0 then (k95 a70) else (ck (¬ lN d = 0) (bd (f_J9_min_f86c9 N a70 (((nI n).toInt64 - lN b) / lN d) M) (fun v11 => k95 v11))))) (fun (k70 : Int64 → Option (Int32)) => if 0 ≤ (lg_cmp v2 (1 : Int64)) then (ck (¬ v2 = 0) (k70 ((v1 - (1 : Int64)) / v2))) else (k70 (0 : Int64)))))) = rc (lN (a + u * c), lN (b + u * d), lN (c + w * (a + u * c)), lN (d + w * (b + u * d)), mv, nI (k + 1)) := by
    intro mv hmv
    have hU : 0 < x * b - y * a := by have := hI.2.2.2.2.1; omega
    have hO : 0 < y * c - x * d := by have := hI.2.2.2.2.2.1; omega
    have eU : lN x * lN b - lN y * lN a = lN (x * b - y * a) := by rw [lN_mul, lN_mul, lN_sub (by have := hI.2.2.2.2.1; omega)]
    have eO : lN y * lN c - lN x * lN d = lN (y * c - x * d) := by rw [lN_mul, lN_mul, lN_sub (by have := hI.2.2.2.2.2.1; omega)]
    have eN : (nI n).toInt64 = lN n := nI_l (by omega)
    have e1 : ∀ z, 0 < z → lN z - 1 = lN (z - 1) := fun z hz => lN_sub (b := 1) hz
    rw [nm_e1, nm_e1, eU, eO]
    have h70 : ∀ K : Int64 → Option Int32, jn K (fun (k70 : Int64 → Option (Int32)) => if 0 ≤ (lg_cmp (lN (y * c - x * d)) (1 : Int64)) then (ck (¬ lN (y * c - x * d) = 0) (k70 ((lN (x * b - y * a) - (1 : Int64)) / lN (y * c - x * d)))) else (k70 (0 : Int64))) = K (lN ((x * b - y * a - 1) / (y * c - x * d))) := by
      intro K
      rw [jn_e, if_pos (by rw [lg_ge]; exact (pk_lLE (a := 1) (by omega) (by omega)).mpr hO), ck_t (lN_ne0 hO (by omega)), e1 _ hU, pk_lDiv (by omega) hO (by omega)]
    rw [h70]
    have hq1 : (x * b - y * a - 1) / (y * c - x * d) ≤ x * b - y * a - 1 := Nat.div_le_self _ _
    have h95 : ∀ K : Int64 → Option Int32, jn K (fun (k95 : Int64 → Option (Int32)) => if (lg_cmp (lN d) (0 : Int64)) ≤ 0 then (k95 (lN ((x * b - y * a - 1) / (y * c - x * d)))) else (ck (¬ lN d = 0) (bd (f_J9_min_f86c9 N (lN ((x * b - y * a - 1) / (y * c - x * d))) (((nI n).toInt64 - lN b) / lN d) M) (fun v11 => k95 v11)))) = K (lN u) := by
      intro K
      rw [jn_e, hu]
      unfold upN
      by_cases q : d = 0
      · rw [if_pos (by rw [lg_le]; exact (pk_lLE (b := 0) (by omega) (by omega)).mpr (by omega)), if_pos q]
      · have hdv : (n - b) / d ≤ n - b := Nat.div_le_self _ _
        rw [if_neg (fun z => q (by have := (pk_lLE (b := 0) (by omega) (by omega)).mp ((lg_le _ _).mp z); omega)), ck_t (lN_ne0 (by omega) (by omega)), eN, lN_sub (by have := hI.2.2.1; omega), pk_lDiv (by omega) (by omega) (by omega), minLN (by omega) (by omega), bd_s, if_neg q]
    rw [h95, nm_e1, nm_e1]
    have ea : lN a + lN u * lN c = lN (a + u * c) := by rw [lN_mul, lN_add]
    have eb : lN b + lN u * lN d = lN (b + u * d) := by rw [lN_mul, lN_add]
    rw [ea, eb, nm_e1]
    have hU' : 0 < x * (b + u * d) - y * (a + u * c) := by have := hA.2.2.2.2.1; omega
    have eU' : lN x * lN (b + u * d) - lN y * lN (a + u * c) = lN (x * (b + u * d) - y * (a + u * c)) := by rw [lN_mul, lN_mul, lN_sub (by have := hA.2.2.2.2.1; omega)]
    rw [eU']
    have hq2 : (y * c - x * d - 1) / (x * (b + u * d) - y * (a + u * c)) ≤ y * c - x * d - 1 := Nat.div_le_self _ _
    have hq3 : (n - d) / (b + u * d) ≤ n - d := Nat.div_le_self _ _
    have hb1 := hA.2.1
    have h163 : ∀ K : Int64 → Option Int32, jn K (fun (k163 : Int64 → Option (Int32)) => jn (fun (a140 : Unit) => k163 (0 : Int64)) (fun (k140 : Unit → Option (Int32)) => if (lg_cmp (lN (x * (b + u * d) - y * (a + u * c))) (1 : Int64)) < 0 then (k140 ()) else (if 0 ≤ (lg_cmp (lN (b + u * d)) (1 : Int64)) then (ck (¬ lN (x * (b + u * d) - y * (a + u * c)) = 0) (ck (¬ lN (b + u * d) = 0) (bd (f_J9_min_f86c9 N ((lN (y * c - x * d) - (1 : Int64)) / lN (x * (b + u * d) - y * (a + u * c))) (((nI n).toInt64 - lN d) / lN (b + u * d)) M) (fun v9 => k163 v9)))) else (k140 ())))) = K (lN w) := by
      intro K
      rw [jn_e, jn_e, if_neg (fun z => by have := (pk_lLT (b := 1) (by omega) (by omega)).mp ((lg_lt _ _).mp z); omega), if_pos (by rw [lg_ge]; exact (pk_lLE (a := 1) (by omega) (by omega)).mpr hb1), ck_t (lN_ne0 hU' (by omega)), ck_t (lN_ne0 hb1 (by omega)), eN, lN_sub (by have := hI.2.2.2.1; omega), e1 _ hO, pk_lDiv (by omega) hU' (by omega), pk_lDiv (by omega) hb1 (by omega), minLN (by omega) (by omega), bd_s, hw]
      rfl
    rw [h163, nm_e1, nm_e1]
    have ec : lN c + lN w * lN (a + u * c) = lN (c + w * (a + u * c)) := by rw [lN_mul, lN_add]
    have ed : lN d + lN w * lN (b + u * d) = lN (d + w * (b + u * d)) := by rw [lN_mul, lN_add]
    rw [ec, ed]
    simp only [jn_e, nm_e1, nI_1]
    have hub : u < 2 ^ 63 := by
      have h1 := (upN_ok hI).1
      rw [← hu] at h1
      have : u ≤ u * (y * c - x * d) := Nat.le_mul_of_pos_right u hO
      omega
    have hwb : w < 2 ^ 63 := by
      have h1 := (dnN_ok hA).1
      rw [← hw] at h1
      have : w ≤ w * (x * (b + u * d) - y * (a + u * c)) := Nat.le_mul_of_pos_right w hU'
      omega
    have cu : 0 < lg_cmp (lN u) 0 ↔ 0 < u := by rw [lg_gt]; exact pk_lLT (a := 0) (by omega) hub
    have cw : lg_cmp (lN w) 0 ≤ 0 ↔ w = 0 := by
      rw [lg_le]
      have := pk_lLE (b := 0) hwb (by omega)
      exact this.trans ⟨fun q => by omega, fun q => by omega⟩
    by_cases q1 : 0 < u
    · rw [if_pos (cu.mpr q1), hmv, if_pos (Or.inl q1)]
    · rw [if_neg (fun z => q1 (cu.mp z))]
      by_cases q2 : w = 0
      · rw [if_pos (cw.mpr q2), hmv, if_neg (by omega)]
      · rw [if_neg (fun z => q2 (cw.mp z)), hmv, if_pos (Or.inr (by omega))]
  dsimp only
  rw [jn_e, if_neg (show ¬ (1 : Int32) = 0 by decide), if_neg (show ¬ (64 : Int32) ≤ nI k from nI_ge (b := 64) (by omega) (by decide)), key _ rfl]
  rcases hcase with ⟨rfl, hh, -, -⟩ | ⟨hm, hh, hk14, -, -⟩
  · rcases hC with ⟨-, u0, w0⟩ | ⟨q, -⟩
    · refine ⟨0, _, by omega, ⟨a, b, c, d, k + 1, hI, Or.inl ⟨rfl, hh, ?_⟩⟩, rfl⟩
      rw [if_neg (by omega), u0, w0]; simp
    · omega
  · rcases hC with ⟨q, -⟩ | ⟨-, huw, hQ⟩
    · omega
    · rw [if_pos huw]
      rcases hQ with q | ⟨q1, q2, q3⟩
      · exact ⟨1, _, by omega, ⟨_, _, _, _, k + 1, hB, Or.inr (Or.inl ⟨rfl, q, by omega, rfl⟩)⟩, rfl⟩
      · have hk13 : k + 1 ≤ 14 := by
          rcases Nat.lt_or_ge (k + 1) 15 with r | r
          · omega
          · have : 2 ^ 15 ≤ 2 ^ (k + 1) := Nat.pow_le_pow_right (by omega) r
            omega
        exact ⟨m - 1, _, by omega, ⟨_, _, _, _, k + 1, hB, Or.inr (Or.inr ⟨by omega, q1, hk13, Or.inr ⟨q1, q2, q3⟩, rfl⟩)⟩, rfl⟩
