/-! longs as sets of places: rows of the kit's BITS (begun there), then my own -/
theorem wb_tb (n : Nat) : (lN n).toBitVec = BitVec.ofNat 64 n := rfl
theorem wb_inj {a b : Int64} (h : a.toBitVec = b.toBitVec) : a = b := Int64.toBitVec_inj.mp h
theorem wb_tn {n : Nat} (h : n < 2 ^ 64) : (lN n).toBitVec.toNat = n := by rw [wb_tb, BitVec.toNat_ofNat, Nat.mod_eq_of_lt h]
theorem wb_of (x : Int64) : ∃ n, n < 2 ^ 64 ∧ x = lN n := ⟨x.toBitVec.toNat, x.toBitVec.isLt, wb_inj (by rw [wb_tb]; simp)⟩
theorem wb_of32 (x : Int32) : ∃ n, n < 2 ^ 32 ∧ x = nI n := ⟨x.toBitVec.toNat, x.toBitVec.isLt, Int32.toBitVec_inj.mp (by show _ = BitVec.ofNat 32 _; simp)⟩
theorem wb_c : ∀ k, k < 64 → ((nI k).toInt64 &&& 63) = lN k := by decide +kernel
theorem wb_cu : ∀ k, k < 64 → ((nI k).toInt64.toUInt64 &&& Int64.toUInt64 63) = UInt64.ofNat k := by decide +kernel
theorem wb_sm : ∀ k, k < 64 → (BitVec.ofNat 64 k).smod 64 = BitVec.ofNat 64 k := by decide +kernel
theorem wb_pw {a b : Nat} (h : a ≤ b) : 2 ^ b = 2 ^ a * 2 ^ (b - a) := by rw [← Nat.pow_add]; congr 1; omega
theorem wb_lt2 {a b : Nat} (h : a < b) : 2 ^ a < 2 ^ b := Nat.pow_lt_pow_right (by decide) h
theorem wb_mod (n : Nat) : lN n = lN (n % 2 ^ 64) := wb_inj (by rw [wb_tb, wb_tb]; apply BitVec.eq_of_toNat_eq; rw [BitVec.toNat_ofNat, BitVec.toNat_ofNat, Nat.mod_mod])
theorem wb_shr {n k : Nat} (hn : n < 2 ^ 64) (hk : k < 64) : ((lN n).toUInt64 >>> ((nI k).toInt64.toUInt64 &&& Int64.toUInt64 63)).toInt64 = lN (n / 2 ^ k) := by
  rw [wb_cu k hk]
  apply wb_inj
  apply BitVec.eq_of_toNat_eq
  show ((lN n).toUInt64 >>> UInt64.ofNat k).toNat = (BitVec.ofNat 64 _).toNat
  have h1 : (UInt64.ofNat k).toNat = k := by
    show (BitVec.ofNat 64 k).toNat = k
    rw [BitVec.toNat_ofNat, Nat.mod_eq_of_lt (by omega)]
  have h2 : (lN n).toUInt64.toNat = n := wb_tn hn
  rw [UInt64.toNat_shiftRight, h1, h2, Nat.mod_eq_of_lt hk, Nat.shiftRight_eq_div_pow, BitVec.toNat_ofNat, Nat.mod_eq_of_lt (Nat.lt_of_le_of_lt (Nat.div_le_self _ _) hn)]
theorem wb_shl (n : Nat) {k : Nat} (hk : k < 64) : lN n <<< ((nI k).toInt64 &&& 63) = lN (n * 2 ^ k) := by
  rw [wb_c k hk]
  apply wb_inj
  rw [Int64.toBitVec_shiftLeft, wb_tb, wb_tb, wb_tb, wb_sm k hk]
  apply BitVec.eq_of_toNat_eq
  rw [BitVec.shiftLeft_eq', BitVec.toNat_shiftLeft, BitVec.toNat_ofNat, BitVec.toNat_ofNat, BitVec.toNat_ofNat, Nat.mod_eq_of_lt (show k < 2 ^ 64 by omega), Nat.shiftLeft_eq, Nat.mul_mod, Nat.mod_mod, ← Nat.mul_mod]
theorem wb_and {a b : Nat} (ha : a < 2 ^ 64) (hb : b < 2 ^ 64) : lN a &&& lN b = lN (a &&& b) := by
  apply wb_inj
  rw [Int64.toBitVec_and, wb_tb, wb_tb, wb_tb]
  apply BitVec.eq_of_toNat_eq
  rw [BitVec.toNat_and, BitVec.toNat_ofNat, BitVec.toNat_ofNat, BitVec.toNat_ofNat, Nat.mod_eq_of_lt ha, Nat.mod_eq_of_lt hb, Nat.mod_eq_of_lt (Nat.and_lt_two_pow _ hb)]
theorem wb_or {a b : Nat} (ha : a < 2 ^ 64) (hb : b < 2 ^ 64) : lN a ||| lN b = lN (a ||| b) := by
  apply wb_inj
  rw [Int64.toBitVec_or, wb_tb, wb_tb, wb_tb]
  apply BitVec.eq_of_toNat_eq
  rw [BitVec.toNat_or, BitVec.toNat_ofNat, BitVec.toNat_ofNat, BitVec.toNat_ofNat, Nat.mod_eq_of_lt ha, Nat.mod_eq_of_lt hb, Nat.mod_eq_of_lt (Nat.or_lt_two_pow ha hb)]
theorem wb_mask {n k : Nat} (hn : n < 2 ^ 64) (hk : k < 64) : lN n &&& lN (2 ^ k - 1) = lN (n % 2 ^ k) := by
  rw [wb_and hn (by have := wb_lt2 hk; omega), Nat.and_two_pow_sub_one_eq_mod]
theorem wb_a1 {n : Nat} (hn : n < 2 ^ 64) : lN n &&& 1 = lN (n % 2) := wb_mask (k := 1) hn (by decide)
theorem wb_bit {n k : Nat} (hn : n < 2 ^ 64) (hk : k < 64) : ((lN n).toUInt64 >>> ((nI k).toInt64.toUInt64 &&& Int64.toUInt64 63)).toInt64 &&& 1 = lN (n / 2 ^ k % 2) := by
  rw [wb_shr hn hk, wb_a1 (Nat.lt_of_le_of_lt (Nat.div_le_self _ _) hn)]
theorem lbit {n k : Nat} (_hn : n < 2 ^ 64) (hk : k < 64) : (lN n >>> ((nI k).toInt64 &&& 63)) &&& 1 = lN (n / 2 ^ k % 2) := by
  rw [wb_c k hk]
  apply wb_inj
  have e : ((lN n >>> lN k) &&& 1).toBitVec = ((lN n).toBitVec.sshiftRight' ((lN k).toBitVec.smod 64)) &&& 1#64 := rfl
  have e2 : (BitVec.ofNat 64 k).toNat = k := by rw [BitVec.toNat_ofNat, Nat.mod_eq_of_lt (by omega)]
  rw [e, wb_tb, wb_tb, wb_sm k hk, BitVec.and_one_eq_setWidth_ofBool_getLsbD, BitVec.getLsbD_sshiftRight', e2, if_pos (by omega), Nat.add_zero, BitVec.getLsbD_ofNat, decide_eq_true hk, wb_tb, ← tb_dm]
  cases n.testBit k <;> rfl
theorem lbitT {n k : Nat} (hn : n < 2 ^ 64) (hk : k < 64) : lg_cmp ((lN n >>> ((nI k).toInt64 &&& 63)) &&& 1) 1 = 0 ↔ n.testBit k = true := by
  rw [lbit hn hk, lg_eq, ← tb_dm]
  cases n.testBit k
  · exact ⟨fun q => absurd q (by decide), fun q => absurd q (by decide)⟩
  · exact ⟨fun _ => rfl, fun _ => rfl⟩
theorem lshl {s : Nat} (hs : s < 64) : (-1 : Int64) <<< ((nI s).toInt64 &&& 63) = lN (2 ^ 64 - 2 ^ s) := by
  have e : (-1 : Int64) = lN (2 ^ 64 - 1) := by decide
  have h2 : 2 ^ s < 2 ^ 64 := wb_lt2 hs
  have hp : 0 < 2 ^ s := Nat.two_pow_pos s
  rw [e, wb_shl _ hs, wb_mod]
  congr 1
  have : (2 ^ 64 - 1) * 2 ^ s = (2 ^ 64 - 2 ^ s) + 2 ^ 64 * (2 ^ s - 1) := by
    rw [Nat.sub_mul, Nat.one_mul, Nat.mul_sub, Nat.mul_one]
    have : 2 ^ 64 ≤ 2 ^ 64 * 2 ^ s := Nat.le_mul_of_pos_right _ hp
    have : 2 ^ s ≤ 2 ^ 64 * 2 ^ s := Nat.le_mul_of_pos_left _ (by decide)
    omega
  rw [this, Nat.add_mul_mod_self_left, Nat.mod_eq_of_lt (by omega)]
theorem lfree {m s : Nat} (hm : m < 2 ^ 40) (hs : s < 64) : lN m &&& ((-1 : Int64) <<< ((nI s).toInt64 &&& 63)) = lN (adn m (2 ^ s - 1)) := by
  have hp : 0 < 2 ^ s := Nat.two_pow_pos s
  have h2 : 2 ^ s < 2 ^ 64 := wb_lt2 hs
  rw [lshl hs, wb_and (by omega) (by omega)]
  congr 1
  refine Nat.eq_of_testBit_eq (fun i => ?_)
  rw [Nat.testBit_and, adn_tb, show 2 ^ 64 - 2 ^ s = 2 ^ 64 - (2 ^ s - 1 + 1) by omega, Nat.testBit_two_pow_sub_succ (by omega)]
  by_cases c : i < 64
  · rw [decide_eq_true c, Bool.true_and]
  · rw [tb_hi hm (by omega)]; rfl
theorem lowb {m : Nat} (hm : m < 2 ^ 40) (h0 : m ≠ 0) : ∃ c, c < 40 ∧ m.testBit c = true ∧ (∀ j, j < c → m.testBit j = false) ∧ lN m &&& -(lN m) = lN (2 ^ c) := by
  obtain ⟨c, c1, c2⟩ := pk_least (fun c => m.testBit c = true) (ne_tb h0)
  have hc : c < 40 := by
    rcases Nat.lt_or_ge c 40 with q | q
    · exact q
    · rw [tb_hi hm q] at c1; exact absurd c1 (by decide)
  have c3 : ∀ j, j < c → m.testBit j = false := fun j hj => by
    cases e : m.testBit j
    · rfl
    · exact absurd e (c2 j hj)
  refine ⟨c, hc, c1, c3, ?_⟩
  apply wb_inj
  rw [Int64.toBitVec_and, Int64.toBitVec_neg, wb_tb, wb_tb]
  apply BitVec.eq_of_getLsbD_eq
  intro i hi
  have g : ∀ j, j < 64 → (BitVec.ofNat 64 m).getLsbD j = m.testBit j := fun j hj => by rw [BitVec.getLsbD_ofNat, decide_eq_true hj, Bool.true_and]
  rw [BitVec.getLsbD_and, BitVec.getLsbD_neg, g i hi, BitVec.getLsbD_ofNat, decide_eq_true hi, Bool.true_and, Bool.true_and, Nat.testBit_two_pow]
  rcases Nat.lt_trichotomy i c with q | q | q
  · rw [c3 i q, decide_eq_false (show ¬ c = i by omega), Bool.false_and]
  · subst q
    rw [c1, decide_eq_true rfl]
    have : ¬ ∃ j, j < i ∧ (BitVec.ofNat 64 m).getLsbD j = true := by
      rintro ⟨j, j1, j2⟩
      rw [g j (by omega), c3 j j1] at j2
      exact absurd j2 (by decide)
    rw [decide_eq_false this]; rfl
  · have : ∃ j, j < i ∧ (BitVec.ofNat 64 m).getLsbD j = true := ⟨c, q, by rw [g c (by omega)]; exact c1⟩
    rw [decide_eq_true this, decide_eq_false (show ¬ c = i by omega)]
    cases m.testBit i <;> rfl
theorem bcJ_d : ∀ c, c < 40 → f_J13_bitCount_95d88 0 (lN (2 ^ c) - 1) (fun _ _ => 0, fun _ _ => 0) = some (nI c) := by decide +kernel
theorem bcJ {N : Nat} {M : Mem} {c : Nat} (h : c < 40) : f_J13_bitCount_95d88 N (lN (2 ^ c) - 1) M = some (nI c) := bcJ_d c h
theorem bcK_d : ∀ m, m < 256 → f_J13_bitCount_95d88 0 (lN m) (fun _ _ => 0, fun _ _ => 0) = some (nI (pc m)) := by decide +kernel
theorem bcK {N : Nat} {M : Mem} {m : Nat} (h : m < 256) : f_J13_bitCount_95d88 N (lN m) M = some (nI (pc m)) := bcK_d m h
theorem l0 {m : Nat} (h : m < 2 ^ 63) : lg_cmp (lN m) 0 = 0 ↔ m = 0 := by
  rw [lg_eq]; exact pk_lEQ (b := 0) h (by omega)
