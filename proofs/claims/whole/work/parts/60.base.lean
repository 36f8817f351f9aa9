/-! The pure part: no machine here. Words of pictures, numbers, loops. -/
theorem ck_t {α : Type} {c : Prop} [Decidable c] {x : Option α} (h : c) : ck c x = x := if_pos h
theorem nm_e1 {α β : Type} (x : α) (k : α → β) : nm x k = k x := rfl
theorem jn_e {α β : Type} (k : α → β) (f : (α → β) → β) : jn k f = f k := rfl
theorem bd_s {α β : Type} (a : α) (k : α → Option β) : bd (some a) k = k a := rfl
theorem bd_of {α β : Type} {x : Option α} {a : α} {k : α → Option β} (h : x = some a) : bd x k = k a := by subst h; rfl
/-- a loop that goes on while a measure falls, and whose end is known -/
theorem lp_run {α β : Type} {b : (α → Option β) → α → Option β} {r : Option β} (μ : α → Nat) (I : α → Prop) (hs : ∀ (a : α) (rc : α → Option β), I a → b rc a = r ∨ ∃ a', I a' ∧ μ a' < μ a ∧ b rc a = rc a') : ∀ (n : Nat) (a : α), I a → μ a < n → lp b n a = r := by
  intro n
  induction n with
  | zero => intro a _ h; omega
  | succ n ih =>
    intro a hI hm
    show b (lp b n) a = r
    rcases hs a (lp b n) hI with h | ⟨a', h1, h2, h3⟩
    · exact h
    · rw [h3]; exact ih a' h1 (by omega)
/-- a loop that counts up to n -/
theorem lp_cnt {α β : Type} {b : (α → Option β) → α → Option β} {r : Option β} (n : Nat) (I : Nat → α → Prop) (hs : ∀ (i : Nat) (a : α) (rc : α → Option β), i < n → I i a → b rc a = r ∨ ∃ a', I (i + 1) a' ∧ b rc a = rc a') (he : ∀ (a : α) (rc : α → Option β), I n a → b rc a = r) : ∀ (k : Nat) (i : Nat) (a : α), i ≤ n → I i a → n < i + k → lp b k a = r := by
  intro k
  induction k with
  | zero => intro i a h1 _ h2; omega
  | succ k ih =>
    intro i a h1 hI h2
    show b (lp b k) a = r
    rcases Nat.lt_or_ge i n with h | h
    · rcases hs i a (lp b k) h hI with h3 | ⟨a', h3, h4⟩
      · exact h3
      · rw [h4]; exact ih (i + 1) a' h h3 (by omega)
    · have hn : i = n := by omega
      subst hn
      exact he a (lp b k) hI
theorem setI_1 (M : Mem) (k j : Nat) (v : Int32) (a b : Nat) : (setI M k j v).1 a b = if a = k then (if b = j then v else M.1 a b) else M.1 a b := rfl
theorem setI_2 (M : Mem) (k j : Nat) (v : Int32) : (setI M k j v).2 = M.2 := rfl
theorem setJ_1 (M : Mem) (k j : Nat) (v : Int64) : (setJ M k j v).1 = M.1 := rfl
theorem setJ_2 (M : Mem) (k j : Nat) (v : Int64) (a b : Nat) : (setJ M k j v).2 a b = if a = k then (if b = j then v else M.2 a b) else M.2 a b := rfl
theorem putI_1 (M : Mem) (k : Nat) (f : Nat → Int32) (a b : Nat) : (putI M k f).1 a b = if a = k then f b else M.1 a b := rfl
theorem putI_2 (M : Mem) (k : Nat) (f : Nat → Int32) : (putI M k f).2 = M.2 := rfl
theorem putJ_1 (M : Mem) (k : Nat) (f : Nat → Int64) : (putJ M k f).1 = M.1 := rfl
theorem putJ_2 (M : Mem) (k : Nat) (f : Nat → Int64) (a b : Nat) : (putJ M k f).2 a b = if a = k then f b else M.2 a b := rfl
/-- nothing but these cells has changed -/
def Ag (cs : List Nat) (M M' : Mem) : Prop := ∀ a, a ∉ cs → M'.1 a = M.1 a ∧ M'.2 a = M.2 a
theorem Ag.rf {cs : List Nat} {M : Mem} : Ag cs M M := fun _ _ => ⟨rfl, rfl⟩
theorem Ag.tr {cs : List Nat} {M M' M'' : Mem} (h : Ag cs M M') (h2 : Ag cs M' M'') : Ag cs M M'' := fun a ha => ⟨(h2 a ha).1.trans (h a ha).1, (h2 a ha).2.trans (h a ha).2⟩
theorem Ag.up {cs ds : List Nat} {M M' : Mem} (h : Ag cs M M') (hs : ∀ a ∈ cs, a ∈ ds) : Ag ds M M' := fun a ha => h a (fun q => ha (hs a q))
theorem Ag.setI {cs : List Nat} {M : Mem} {k j : Nat} {v : Int32} (h : k ∈ cs) : Ag cs M (setI M k j v) := fun a ha => ⟨setI_o (fun e => ha (e ▸ h)), rfl⟩
theorem Ag.setJ {cs : List Nat} {M : Mem} {k j : Nat} {v : Int64} (h : k ∈ cs) : Ag cs M (setJ M k j v) := fun a ha => ⟨rfl, setJ_o (fun e => ha (e ▸ h))⟩
theorem Ag.putI {cs : List Nat} {M : Mem} {k : Nat} {f : Nat → Int32} (h : k ∈ cs) : Ag cs M (putI M k f) := fun a ha => ⟨putI_o (fun e => ha (e ▸ h)), rfl⟩
theorem Ag.putJ {cs : List Nat} {M : Mem} {k : Nat} {f : Nat → Int64} (h : k ∈ cs) : Ag cs M (putJ M k f) := fun a ha => ⟨rfl, putJ_o (fun e => ha (e ▸ h))⟩
/-! numbers -/
theorem i_lt (a b : Int32) : a < b ↔ a.toInt < b.toInt := Int32.lt_iff_toInt_lt
theorem i_le (a b : Int32) : a ≤ b ↔ a.toInt ≤ b.toInt := Int32.le_iff_toInt_le
theorem i_eq (a b : Int32) : a = b ↔ a.toInt = b.toInt := Int32.toInt_inj.symm
theorem j_lt (a b : Int64) : a < b ↔ a.toInt < b.toInt := Int64.lt_iff_toInt_lt
theorem j_le (a b : Int64) : a ≤ b ↔ a.toInt ≤ b.toInt := Int64.le_iff_toInt_le
theorem j_eq (a b : Int64) : a = b ↔ a.toInt = b.toInt := Int64.toInt_inj.symm
theorem w_toInt (a : Int32) : a.toInt64.toInt = a.toInt := Int32.toInt_toInt64 a
theorem lit (n : Nat) : (OfNat.ofNat n : Int32) = nI n := rfl
theorem lg_lt (x y : Int64) : lg_cmp x y < 0 ↔ x < y := by
  unfold lg_cmp
  split
  next h => exact ⟨fun q => absurd q (by decide), fun q => by rw [j_lt] at q; have h2 : y.toInt < x.toInt := (j_lt _ _).mp h; omega⟩
  next h =>
    split
    next h2 => exact ⟨fun q => absurd q (by decide), fun q => by subst h2; rw [j_lt] at q; omega⟩
    next h2 => exact ⟨fun _ => by rw [j_lt]; have h3 : ¬ (y.toInt < x.toInt) := fun q => h ((j_lt _ _).mpr q); have h4 : ¬ x.toInt = y.toInt := fun q => h2 ((j_eq _ _).mpr q); omega, fun _ => by decide⟩
theorem lg_gt (x y : Int64) : 0 < lg_cmp x y ↔ y < x := by
  unfold lg_cmp
  split
  next h => exact ⟨fun _ => h, fun _ => by decide⟩
  next h =>
    split
    next h2 => exact ⟨fun q => absurd q (by decide), fun q => absurd q h⟩
    next h2 => exact ⟨fun q => absurd q (by decide), fun q => absurd q h⟩
theorem lg_eq (x y : Int64) : lg_cmp x y = 0 ↔ x = y := by
  unfold lg_cmp
  split
  next h => exact ⟨fun q => absurd q (by decide), fun q => by subst q; have h2 := (j_lt _ _).mp h; omega⟩
  next h =>
    split
    next h2 => exact ⟨fun _ => h2, fun _ => rfl⟩
    next h2 => exact ⟨fun q => absurd q (by decide), fun q => absurd q h2⟩
theorem lg_ge (x y : Int64) : 0 ≤ lg_cmp x y ↔ y ≤ x := by
  have h := lg_lt x y
  rw [i_lt] at h; rw [i_le]
  rw [j_lt] at h; rw [j_le]
  have z : (0 : Int32).toInt = 0 := rfl
  rw [z] at h ⊢
  omega
theorem lg_le (x y : Int64) : lg_cmp x y ≤ 0 ↔ x ≤ y := by
  have h := lg_gt x y
  rw [i_lt] at h; rw [i_le]
  rw [j_lt] at h; rw [j_le]
  have z : (0 : Int32).toInt = 0 := rfl
  rw [z] at h ⊢
  omega
/-- a bool of a condition, as an int -/
def bI (c : Prop) [Decidable c] : Int32 := if c then 1 else 0
theorem bI_0 {c : Prop} [Decidable c] : bI c = 0 ↔ ¬ c := by unfold bI; split <;> simp_all
theorem bI_ck {c : Prop} [Decidable c] : bI c = 0 ∨ bI c = 1 := by unfold bI; split <;> simp
theorem bI_cg {c d : Prop} [Decidable c] [Decidable d] (h : c ↔ d) : bI c = bI d := by unfold bI; simp [h]
theorem within_e (N : Nat) (x a b : Int32) (M : Mem) : f_X7_within N x a b M = some (bI (a ≤ x ∧ x ≤ b)) := by
  unfold f_X7_within bI
  rw [jn_e]
  have h1 : x < a ↔ ¬ a ≤ x := by rw [i_lt, i_le]; omega
  have h2 : b < x ↔ ¬ x ≤ b := by rw [i_lt, i_le]; omega
  by_cases c1 : a ≤ x <;> by_cases c2 : x ≤ b <;> simp [h1, h2, c1, c2]
theorem in_e (N : Nat) (x a b : Int64) (M : Mem) : f_X8_in N x a b M = some (bI (a ≤ x ∧ x ≤ b)) := by
  unfold f_X8_in bI
  rw [jn_e]
  have h1 : x < a ↔ ¬ a ≤ x := by rw [j_lt, j_le]; omega
  have h2 : b < x ↔ ¬ x ≤ b := by rw [j_lt, j_le]; omega
  simp only [lg_lt, lg_gt, h1, h2]
  by_cases c1 : a ≤ x <;> by_cases c2 : x ≤ b <;> simp [c1, c2]
theorem lj_le {x : Int32} {a : Int64} {b : Int32} (h : a.toInt = b.toInt) : a ≤ x.toInt64 ↔ b ≤ x := by rw [j_le, i_le, w_toInt, h]
theorem jl_le {x : Int32} {a : Int64} {b : Int32} (h : a.toInt = b.toInt) : x.toInt64 ≤ a ↔ x ≤ b := by rw [j_le, i_le, w_toInt, h]
/-- the reference's 'in' of ints -/
theorem inI_e (N : Nat) (x : Int32) {a b : Int64} (c d : Int32) (M : Mem) (h1 : a.toInt = c.toInt) (h2 : b.toInt = d.toInt) : f_X8_in N x.toInt64 a b M = some (bI (c ≤ x ∧ x ≤ d)) := by
  rw [in_e]
  exact congrArg some (bI_cg (by rw [lj_le h1, jl_le h2]))
theorem inb_nI {i n : Nat} (h : i < n) (hn : n < 2 ^ 31) : inb (nI i) n := vp_in_nI h hn
theorem inb_of {x : Int32} {n : Nat} (hn : n < 2 ^ 31) (h : inb x n) : ∃ j, j < n ∧ x = nI j := vp_in_of h hn
theorem inb_iff {x : Int32} {n : Nat} (hn : n < 2 ^ 31) : inb x n ↔ 0 ≤ x.toInt ∧ x.toInt < n := vp_in_iff
