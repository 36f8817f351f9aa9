/-! sets of lines as masks; the class's way round -/
def mk (p : Nat → Bool) : Nat → Nat
  | 0 => 0
  | n + 1 => mk p n + (if p n then 2 ^ n else 0)
theorem mk_lt {p : Nat → Bool} : ∀ n, mk p n < 2 ^ n
  | 0 => by show 0 < 1; omega
  | n + 1 => by
    have := mk_lt (p := p) n
    show mk p n + (if p n then 2 ^ n else 0) < _
    rw [Nat.pow_succ]
    generalize 2 ^ n = t at *
    split <;> omega
theorem tb_or2 (m l i : Nat) : (m ||| 2 ^ l).testBit i = if i = l then true else m.testBit i := by
  rw [Nat.testBit_or, Nat.testBit_two_pow]
  by_cases c : i = l
  · subst c; simp
  · simp [c]; intro h; exact absurd h.symm c
theorem tb_upB (m l : Nat) : (m ||| 2 ^ l).testBit = upB m.testBit l true := by
  funext i; rw [tb_or2]; rfl
theorem mk_tb {p : Nat → Bool} : ∀ n l, (mk p n).testBit l = (decide (l < n) && p l)
  | 0, l => by show Nat.testBit 0 l = _; rw [Nat.zero_testBit]; simp
  | n + 1, l => by
    show (mk p n + (if p n then 2 ^ n else 0)).testBit l = _
    cases hp : p n
    · rw [if_neg (by decide), Nat.add_zero, mk_tb n l]
      by_cases c : l = n
      · subst c; rw [hp]; simp
      · by_cases d : l < n
        · rw [decide_eq_true d, decide_eq_true (show l < n + 1 by omega)]
        · rw [decide_eq_false d, decide_eq_false (show ¬ l < n + 1 by omega)]
    · rw [if_pos rfl, ← or_add (mk_lt n), tb_or2, mk_tb n l]
      by_cases c : l = n
      · subst c; rw [if_pos rfl, hp]; simp
      · rw [if_neg c]
        by_cases d : l < n
        · rw [decide_eq_true d, decide_eq_true (show l < n + 1 by omega)]
        · rw [decide_eq_false d, decide_eq_false (show ¬ l < n + 1 by omega)]
theorem tb_hi {m n l : Nat} (h : m < 2 ^ n) (hl : n ≤ l) : m.testBit l = false := Nat.testBit_lt_two_pow (Nat.lt_of_lt_of_le h (Nat.pow_le_pow_right (by omega) hl))
theorem tb_dm (m i : Nat) : (m.testBit i).toNat = m / 2 ^ i % 2 := by
  rw [Nat.testBit_eq_decide_div_mod_eq]
  have : m / 2 ^ i % 2 < 2 := Nat.mod_lt _ (by omega)
  by_cases c : m / 2 ^ i % 2 = 1
  · rw [decide_eq_true c, c]; rfl
  · rw [decide_eq_false c]; show 0 = _; omega
theorem pc_cnt (m : Nat) : pc m = cnt m.testBit 10 := by
  show _ = 0 + (m.testBit 0).toNat + (m.testBit 1).toNat + (m.testBit 2).toNat + (m.testBit 3).toNat + (m.testBit 4).toNat + (m.testBit 5).toNat + (m.testBit 6).toNat + (m.testBit 7).toNat + (m.testBit 8).toNat + (m.testBit 9).toNat
  simp only [tb_dm]
  unfold pc
  rw [Nat.pow_zero, Nat.div_one, Nat.zero_add]
theorem pc_cntn {m n : Nat} (h : m < 2 ^ n) (hn : n ≤ 10) : pc m = cnt m.testBit n := by
  rw [pc_cnt]; exact cnt_ext (fun l hl => tb_hi h hl) 10 hn
theorem lt1024 {m n : Nat} (h : m < 2 ^ n) (hn : n ≤ 10) : m < 1024 := Nat.lt_of_lt_of_le h (Nat.pow_le_pow_right (by omega) hn : 2 ^ n ≤ 2 ^ 10)
/-- bits of one that aren't in another -/
def adn (a g : Nat) : Nat := a ^^^ (a &&& g)
theorem adn_tb (a g i : Nat) : (adn a g).testBit i = (a.testBit i && !g.testBit i) := by
  unfold adn
  rw [Nat.testBit_xor, Nat.testBit_and]
  cases a.testBit i <;> cases g.testBit i <;> rfl
theorem andn_b (x y : BitVec 32) : x &&& (y ^^^ BitVec.allOnes 32) = x ^^^ (x &&& y) := by
  ext i hi
  simp
  cases x[i] <;> cases y[i] <;> rfl
theorem andn_i (x y : Int32) : x &&& (y ^^^ (-1)) = x ^^^ (x &&& y) := tb_inj (by
  rw [Int32.toBitVec_and, Int32.toBitVec_xor, Int32.toBitVec_xor, Int32.toBitVec_and]
  exact andn_b x.toBitVec y.toBitVec)
theorem nI_andn (a g : Nat) : nI a &&& (nI g ^^^ (-1)) = nI (adn a g) := by
  rw [andn_i, nI_and, nI_xor]; rfl
theorem sub_lt {a m n : Nat} (h : ∀ i, a.testBit i = true → m.testBit i = true) (hm : m < 2 ^ n) : a < 2 ^ n := by
  apply Nat.lt_pow_two_of_testBit
  intro i hi
  cases e : a.testBit i
  · rfl
  · have := h i e
    rw [tb_hi hm hi] at this; exact absurd this (by decide)
theorem ne_tb {m : Nat} (h : m ≠ 0) : ∃ i, m.testBit i = true := Nat.exists_testBit_of_ne_zero h
def lb (m : Nat) : Nat := if m % 2 = 1 then 0 else if m / 2 % 2 = 1 then 1 else if m / 4 % 2 = 1 then 2 else if m / 8 % 2 = 1 then 3 else if m / 16 % 2 = 1 then 4 else if m / 32 % 2 = 1 then 5 else if m / 64 % 2 = 1 then 6 else if m / 128 % 2 = 1 then 7 else if m / 256 % 2 = 1 then 8 else 9
theorem lb_d : ∀ m, m < 1024 → m ≠ 0 → f_X4_leastOf 0 (nI m) (fun _ _ => 0, fun _ _ => 0) = some (nI (lb m)) ∧ lb m < 10 ∧ m.testBit (lb m) = true ∧ (pc m = 1 → m = 2 ^ lb m) := by decide +kernel
theorem lbX {N : Nat} {M : Mem} {m : Nat} (h : m < 1024) (h0 : m ≠ 0) : f_X4_leastOf N (nI m) M = some (nI (lb m)) := (lb_d m h h0).1
/-- lines of a point -/
def tch (G : Gr) (x : Nat) : Nat := mk (fun l => inc G l x) (gN G)
theorem tch_tb {G : Gr} {x l : Nat} : (tch G x).testBit l = (decide (l < gN G) && inc G l x) := mk_tb _ _
abbrev tbS (m : Nat) : Nat → Bool := m.testBit
