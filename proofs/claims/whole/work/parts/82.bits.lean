/-! sets as bits -/
theorem nI_tb (n : Nat) : (nI n).toBitVec = BitVec.ofNat 32 n := rfl
theorem tb_inj {a b : Int32} (h : a.toBitVec = b.toBitVec) : a = b := Int32.toBitVec_inj.mp h
theorem nI_or (a b : Nat) : nI a ||| nI b = nI (a ||| b) := tb_inj (by rw [Int32.toBitVec_or, nI_tb, nI_tb, nI_tb, BitVec.ofNat_or])
theorem nI_and (a b : Nat) : nI a &&& nI b = nI (a &&& b) := tb_inj (by rw [Int32.toBitVec_and, nI_tb, nI_tb, nI_tb, BitVec.ofNat_and])
theorem nI_xor (a b : Nat) : nI a ^^^ nI b = nI (a ^^^ b) := tb_inj (by rw [Int32.toBitVec_xor, nI_tb, nI_tb, nI_tb, BitVec.ofNat_xor])
theorem and31 {l : Nat} (h : l < 32) : nI l &&& 31 = nI l := by
  have := pk_andN (n := l) (m := 31) (by omega) 5 (by decide)
  rw [this, Nat.mod_eq_of_lt (by omega)]
theorem smod32 : ∀ l, l < 31 → ((nI l).toBitVec.smod 32).toNat = l := by decide +kernel
theorem sh1 {l : Nat} (h : l < 31) : (1 : Int32) <<< (nI l &&& 31) = nI (2 ^ l) := by
  rw [and31 (by omega)]
  have h2 : (2 : Nat) ^ l < 2 ^ 31 := Nat.pow_lt_pow_right (by omega) h
  have := pk_shlN (n := 1) (nI l) l (smod32 l h) (by omega)
  rw [Nat.one_mul] at this
  exact this
theorem shr1 {m l : Nat} (h : l < 31) (hm : m < 2 ^ 31) : nI m >>> (nI l &&& 31) = nI (m / 2 ^ l) := by
  rw [and31 (by omega)]; exact pk_shrN hm (nI l) l (smod32 l h)
theorem and1 (m : Nat) (hm : m < 2 ^ 32) : nI m &&& 1 = nI (m % 2) := pk_andN (m := 1) hm 1 (by decide)
theorem bit1 {m l : Nat} (h : l < 31) (hm : m < 2 ^ 31) : (nI m >>> (nI l &&& 31)) &&& 1 = nI (m / 2 ^ l % 2) := by
  have : m / 2 ^ l ≤ m := Nat.div_le_self _ _
  rw [shr1 h hm, and1 _ (by omega)]
theorem or_add {m l : Nat} (h : m < 2 ^ l) : m ||| 2 ^ l = m + 2 ^ l := by
  have := Nat.two_pow_add_eq_or_of_lt h 1
  rw [Nat.mul_one] at this
  rw [Nat.or_comm, ← this, Nat.add_comm]
theorem orbit {m l : Nat} (h : m < 2 ^ l) (hl : l < 31) : nI m ||| ((1 : Int32) <<< (nI l &&& 31)) = nI (m + 2 ^ l) := by
  rw [sh1 hl, nI_or, or_add h]
/-- how many bits are set (ten at most) -/
def pc (m : Nat) : Nat := m % 2 + m / 2 % 2 + m / 4 % 2 + m / 8 % 2 + m / 16 % 2 + m / 32 % 2 + m / 64 % 2 + m / 128 % 2 + m / 256 % 2 + m / 512 % 2
theorem bc_d : ∀ m, m < 1024 → f_J6_bitCount_0f7a4 0 (nI m) (fun _ _ => 0, fun _ _ => 0) = some (nI (pc m)) := by decide +kernel
theorem bcX {N : Nat} {M : Mem} {m : Nat} (h : m < 1024) : f_J6_bitCount_0f7a4 N (nI m) M = some (nI (pc m)) := bc_d m h
theorem bt_d : ∀ m, m < 1024 → m ≠ 0 → (nI m).toInt64 &&& ((nI m).toInt64 - 1) = (nI (m &&& (m - 1))).toInt64 ∧ pc (m &&& (m - 1)) + 1 = pc m ∧ (m &&& (m - 1)) < 1024 := by decide +kernel
theorem pc_le (m : Nat) : pc m ≤ 10 := by unfold pc; omega
theorem btM1 {N : Nat} (hN : 2000 ≤ N) {M : Mem} {m : Nat} (h : m < 1024) : f_X8_bits N (nI m).toInt64 M = some (nI (pc m)) := by
  unfold f_X8_bits
  refine lp_S (S := fun o => o = some (nI (pc m))) (fun n (a : Int32 × Int64) => ∃ x c, x < 1024 ∧ n = pc x ∧ c + pc x = pc m ∧ a = (nI c, (nI x).toInt64)) (fun n a rc hJ => ?_) N (pc m) _ ⟨m, 0, h, rfl, by omega, rfl⟩ (by have := pc_le m; omega)
  obtain ⟨x, c, h1, h2, h3, rfl⟩ := hJ
  dsimp only
  by_cases c0 : x = 0
  · left
    subst c0
    rw [if_pos (show lg_cmp (nI 0).toInt64 0 = 0 by decide)]
    have : pc 0 = 0 := rfl
    rw [show c = pc m by omega]
  · right
    obtain ⟨b1, b2, b3⟩ := bt_d x h1 c0
    rw [if_neg (fun q => c0 ?_), nm_e1, nm_e1, nI_1, b1]
    · exact ⟨pc (x &&& (x - 1)), _, by omega, ⟨x &&& (x - 1), c + 1, b3, rfl, by omega, rfl⟩, rfl⟩
    · have h5 := congrArg Int64.toInt ((lg_eq _ _).mp q)
      rw [w_toInt, nI_toInt (by omega)] at h5
      have : (0 : Int64).toInt = 0 := rfl
      omega
