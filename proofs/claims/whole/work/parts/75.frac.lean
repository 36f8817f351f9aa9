/-! fractions in lowest terms -/
theorem jn_if {α β : Type} {c : Prop} [Decidable c] (K : α → β) (u v : α) : jn K (fun k => if c then k u else k v) = K (if c then u else v) := by show (if c then K u else K v) = _; split <;> rfl
def ngA (x : Int64) : Int64 := if x ≤ 0 then x else -x
theorem ngA_t (x : Int64) : (ngA x).toInt = -(x.toInt.natAbs : Int) := by
  have h1 := jt_lo x
  have h2 := jt_hi x
  have e0 : (0 : Int64).toInt = 0 := rfl
  unfold ngA
  by_cases c : x ≤ 0
  · rw [if_pos c]; rw [j_le] at c; omega
  · rw [if_neg c, jt_neg]; rw [j_le] at c; rw [bm64 (by omega) (by omega)]; omega
theorem ngA_m (x : Int64) : (if 0 ≤ x then -x else x) = ngA x := by
  unfold ngA
  have e0 : (0 : Int64).toInt = 0 := rfl
  by_cases c : x ≤ 0
  · rw [if_pos c]
    by_cases d : 0 ≤ x
    · rw [if_pos d]
      rw [j_le] at c d
      have : x = 0 := (j0 x).mpr (by omega)
      rw [this]; rfl
    · rw [if_neg d]
  · rw [if_neg c, if_pos (by rw [j_le] at *; omega)]
/-- the two parts in lowest terms, below 0 -/
def lwA (p q : Nat) : Int64 := Int64.ofInt (-((p / Nat.gcd p q : Nat) : Int))
def lwB (p q : Nat) : Int64 := Int64.ofInt (-((q / Nat.gcd p q : Nat) : Int))
theorem ofI_t {x : Int} (h1 : -(2 : Int) ^ 63 ≤ x) (h2 : x < (2 : Int) ^ 63) : (Int64.ofInt x).toInt = x := by
  rw [Int64.toInt_ofInt]; exact bm64 h1 h2
theorem lwA_t {p q : Nat} (hp : p ≤ 2 ^ 63) : (lwA p q).toInt = -((p / Nat.gcd p q : Nat) : Int) := by
  unfold lwA
  have : p / Nat.gcd p q ≤ p := Nat.div_le_self _ _
  generalize p / Nat.gcd p q = d at *
  exact ofI_t (by omega) (by omega)
theorem lwB_t {p q : Nat} (hq : q ≤ 2 ^ 63) : (lwB p q).toInt = -((q / Nat.gcd p q : Nat) : Int) := by
  unfold lwB
  have : q / Nat.gcd p q ≤ q := Nat.div_le_self _ _
  generalize q / Nat.gcd p q = d at *
  exact ofI_t (by omega) (by omega)
theorem tdiv_nn (p g : Nat) : (-(p : Int)).tdiv (-(g : Int)) = ((p / g : Nat) : Int) := by
  rw [Int.neg_tdiv, Int.tdiv_neg, Int.neg_neg, Int.ofNat_tdiv]
theorem tdiv_np (p g : Nat) : (-(p : Int)).tdiv (g : Int) = -((p / g : Nat) : Int) := by
  rw [Int.neg_tdiv, Int.ofNat_tdiv]
theorem minJ : (-9223372036854775808 : Int64).toInt = -(2 : Int) ^ 63 := by decide
/-- the class's cut -/
theorem cutX {p g : Nat} {u v : Int64} (hu : u.toInt = -(p : Int)) (hv : v.toInt = -(g : Int)) (hg : 2 ≤ g) (hp : p ≤ 2 ^ 63) : (-(u / v)).toInt = -((p / g : Nat) : Int) := by
  have h : p / g ≤ p / 2 := Nat.div_le_div_left hg (by omega)
  rw [jt_neg, jt_div, hu, hv, tdiv_nn]
  have h2 : p / 2 ≤ 2 ^ 62 := by omega
  generalize p / g = d at *
  rw [bm64 (x := (d : Int)) (by omega) (by omega), bm64 (by omega) (by omega)]
/-- the reference's cut -/
theorem cutM {p g : Nat} {u v : Int64} (hu : u.toInt = -(p : Int)) (hv : v.toInt = -(g : Int)) (hg : 1 ≤ g) (hg2 : g < 2 ^ 63) (hp : p ≤ 2 ^ 63) : (u / -v).toInt = -((p / g : Nat) : Int) := by
  have h : p / g ≤ p := Nat.div_le_self _ _
  have e : (-v).toInt = (g : Int) := by rw [jt_neg, hv, Int.neg_neg, bm64 (by omega) (by omega)]
  rw [jt_div, hu, e, tdiv_np]
  generalize p / g = d at *
  rw [bm64 (by omega) (by omega)]
theorem frac_rr {N k : Nat} (hN : 2000 ≤ N) (hk : k ≤ 3) (x y : Int64) (hy : y ≠ 0) (Mx Mm : Mem) (P : Int32 × Mem → Int32 × Mem → Prop) (hf : P (-5, Mx) (-5, Mm)) (ho : ∀ a b : Int64, 0 < b → P (1, setJ (setJ (setI Mx (holdC k) 0 1) (holdC k) 1 a) (holdC k) 2 b) (1, setJ (setJ (setI Mm 11 k 1) 15 k a) 16 k b)) : RR P (f_X0_takeFraction N (holdC k) x y Mx) (f_X8_gets N (nI k) x y Mm) := by
  have i4 : inb (nI k) 4 := inb_nI (by omega) (by decide)
  have ck' : (nI k).toNatClampNeg = k := nI_clamp (by omega)
  have yq : y.toInt ≠ 0 := fun q => hy ((j0 y).mpr q)
  obtain ⟨p, hp⟩ : ∃ p, p = x.toInt.natAbs := ⟨_, rfl⟩
  obtain ⟨q, hq⟩ : ∃ q, q = y.toInt.natAbs := ⟨_, rfl⟩
  have p63 : p ≤ 2 ^ 63 := by rw [hp]; exact abs_le x
  have q63 : q ≤ 2 ^ 63 := by rw [hq]; exact abs_le y
  have q1 : 1 ≤ q := by omega
  have ux : (ngA x).toInt = -(p : Int) := by rw [ngA_t, hp]
  have uy : (ngA y).toInt = -(q : Int) := by rw [ngA_t, hq]
  obtain ⟨g, hg⟩ : ∃ g, g = Nat.gcd p q := ⟨_, rfl⟩
  have g1 : 1 ≤ g := by rw [hg]; exact Nat.gcd_pos_of_pos_right _ q1
  have gq : g ≤ q := by rw [hg]; exact Nat.le_of_dvd q1 (Nat.gcd_dvd_right _ _)
  have B1 : 1 ≤ q / g := Nat.div_pos gq g1
  have eA : (lwA p q).toInt = -((p / g : Nat) : Int) := by rw [lwA_t p63, hg]
  have eB : (lwB p q).toInt = -((q / g : Nat) : Int) := by rw [lwB_t q63, hg]
  have gcdq : ∀ v : Int64, GcdQ (ngA x).toInt (ngA y).toInt v.toInt → v.toInt = -(g : Int) := by
    intro v hv
    obtain ⟨h1, -, h3⟩ := hv
    have h4 := h3 (Or.inr (by rw [uy]; omega))
    rw [ux, uy] at h1
    have e1 : (-(p : Int)).natAbs = p := by omega
    have e2 : (-(q : Int)).natAbs = q := by omega
    rw [e1, e2, ← hg] at h1
    omega
  have sd : Sd (ngA x).toInt (ngA y).toInt := Or.inr ⟨by rw [ux]; omega, by rw [uy]; omega⟩
  have posB : ¬ lg_cmp (lwB p q) (-9223372036854775808) = 0 → 0 < -(lwB p q) := by
    intro hb
    have h1 : (lwB p q).toInt ≠ -(2 : Int) ^ 63 := fun z => hb ((lg_eq _ _).mpr ((j_eq _ _).mpr (by rw [z, minJ])))
    have h2 := jt_lo (lwB p q)
    rw [j_lt, jt_neg, eB] at *
    rw [bm64 (by omega) (by omega)]
    have e0 : (0 : Int64).toInt = 0 := rfl
    omega
  -- the tails
  have tl : ∀ (s : Int32), (s = 0 ∨ s = 1) → RR P (if lg_cmp (lwB p q) (-9223372036854775808) = 0 then some (-5, Mx) else if s = 0 then (if lg_cmp (lwA p q) (-9223372036854775808) = 0 then some (-5, Mx) else (if s = 0 then some ((1 : Int32), setJ (setJ (setI Mx (holdC k) 0 1) (holdC k) 1 (-(lwA p q))) (holdC k) 2 (-(lwB p q))) else some ((1 : Int32), setJ (setJ (setI Mx (holdC k) 0 1) (holdC k) 1 (lwA p q)) (holdC k) 2 (-(lwB p q))))) else (if s = 0 then some ((1 : Int32), setJ (setJ (setI Mx (holdC k) 0 1) (holdC k) 1 (-(lwA p q))) (holdC k) 2 (-(lwB p q))) else some ((1 : Int32), setJ (setJ (setI Mx (holdC k) 0 1) (holdC k) 1 (lwA p q)) (holdC k) 2 (-(lwB p q))))) (if lg_cmp (lwB p q) (-9223372036854775808) = 0 then some (-5, Mm) else if lg_cmp (lwA p q) (-9223372036854775808) = 0 then (if s = 0 then some (-5, Mm) else (if s = 0 then some ((1 : Int32), setJ (setJ (setI Mm 11 k 1) 15 k (-(lwA p q))) 16 k (-(lwB p q))) else some ((1 : Int32), setJ (setJ (setI Mm 11 k 1) 15 k (lwA p q)) 16 k (-(lwB p q))))) else (if s = 0 then some ((1 : Int32), setJ (setJ (setI Mm 11 k 1) 15 k (-(lwA p q))) 16 k (-(lwB p q))) else some ((1 : Int32), setJ (setJ (setI Mm 11 k 1) 15 k (lwA p q)) 16 k (-(lwB p q))))) := by
    intro s hs
    refine rr_ite Iff.rfl (fun _ => rr_ret hf) (fun hb => ?_)
    have hb' := posB hb
    rcases hs with rfl | rfl
    · simp only [if_true]
      exact rr_ite Iff.rfl (fun _ => rr_ret hf) (fun _ => rr_ret (ho _ _ hb'))
    · simp only [if_neg (show ¬ (1 : Int32) = 0 by decide), ite_self]
      exact rr_ret (ho _ _ hb')
  -- the class
  obtain ⟨sg, hsg, hsg2⟩ : ∃ s : Int32, (s = 0 ∨ s = 1) ∧ s = (if (if 0 ≤ lg_cmp x 0 then (0 : Int32) else 1) = (if 0 ≤ lg_cmp y 0 then (0 : Int32) else 1) then (0 : Int32) else 1) := ⟨_, by by_cases c : (if 0 ≤ lg_cmp x 0 then (0 : Int32) else 1) = (if 0 ≤ lg_cmp y 0 then (0 : Int32) else 1); exact Or.inl (if_pos c); exact Or.inr (if_neg c), rfl⟩
  have hX : f_X0_takeFraction N (holdC k) x y Mx = (if lg_cmp (lwB p q) (-9223372036854775808) = 0 then some (-5, Mx) else if sg = 0 then (if lg_cmp (lwA p q) (-9223372036854775808) = 0 then some (-5, Mx) else (if sg = 0 then some ((1 : Int32), setJ (setJ (setI Mx (holdC k) 0 1) (holdC k) 1 (-(lwA p q))) (holdC k) 2 (-(lwB p q))) else some ((1 : Int32), setJ (setJ (setI Mx (holdC k) 0 1) (holdC k) 1 (lwA p q)) (holdC k) 2 (-(lwB p q))))) else (if sg = 0 then some ((1 : Int32), setJ (setJ (setI Mx (holdC k) 0 1) (holdC k) 1 (-(lwA p q))) (holdC k) 2 (-(lwB p q))) else some ((1 : Int32), setJ (setJ (setI Mx (holdC k) 0 1) (holdC k) 1 (lwA p q)) (holdC k) 2 (-(lwB p q))))) := by
    obtain ⟨v, v1, v2⟩ := cp_e (M := Mx) hN (ngA x) (ngA y) sd
    have v3 := gcdq v v2
    have pair : (if 0 ≤ lg_cmp v (-1) then (ngA x, ngA y) else (-(ngA x / v), -(ngA y / v))) = (lwA p q, lwB p q) := by
      have em : (-1 : Int64).toInt = -1 := rfl
      by_cases c : 0 ≤ lg_cmp v (-1)
      · rw [if_pos c]
        rw [lg_ge, j_le, em] at c
        have : g = 1 := by omega
        rw [this, Nat.div_one] at eA eB
        exact Prod.ext ((j_eq _ _).mpr (by rw [ux, eA])) ((j_eq _ _).mpr (by rw [uy, eB]))
      · rw [if_neg c]
        rw [lg_ge, j_le, em] at c
        exact Prod.ext ((j_eq _ _).mpr (by rw [cutX ux v3 (by omega) p63, eA])) ((j_eq _ _).mpr (by rw [cutX uy v3 (by omega) q63, eB]))
    have vn : ¬ v = 0 := fun z => by rw [z] at v3; have : (0 : Int64).toInt = 0 := rfl; omega
    unfold f_X0_takeFraction
    rw [jn_if, jn_if]
    simp only [lg_le]
    rw [show (if x ≤ 0 then x else -x) = ngA x from rfl, show (if y ≤ 0 then y else -y) = ngA y from rfl, v1, bd_s]
    simp only [ck_t vn, nm_e1]
    rw [jn_if, pair, jn_if, jn_if, jn_if, ← hsg2]
    simp only [jn_e]
  have hM : f_X8_gets N (nI k) x y Mm = (if lg_cmp (lwB p q) (-9223372036854775808) = 0 then some (-5, Mm) else if lg_cmp (lwA p q) (-9223372036854775808) = 0 then (if sg = 0 then some (-5, Mm) else (if sg = 0 then some ((1 : Int32), setJ (setJ (setI Mm 11 k 1) 15 k (-(lwA p q))) 16 k (-(lwB p q))) else some ((1 : Int32), setJ (setJ (setI Mm 11 k 1) 15 k (lwA p q)) 16 k (-(lwB p q))))) else (if sg = 0 then some ((1 : Int32), setJ (setJ (setI Mm 11 k 1) 15 k (-(lwA p q))) 16 k (-(lwB p q))) else some ((1 : Int32), setJ (setJ (setI Mm 11 k 1) 15 k (lwA p q)) 16 k (-(lwB p q))))) := by
    have hx' : (if 0 ≤ lg_cmp x 0 then -x else x) = ngA x := by rw [← ngA_m]; simp only [lg_ge]
    have hy' : (if 0 ≤ lg_cmp y 0 then -y else y) = ngA y := by rw [← ngA_m]; simp only [lg_ge]
    unfold f_X8_gets
    rw [if_neg (fun z => hy ((lg_eq _ _).mp z)), jn_if, hx', jn_if, hy']
    refine lp_S (S := fun o => o = _) (fun n (a : Int64 × Int64) => GcdJ (ngA x).toInt (ngA y).toInt n a.1.toInt a.2.toInt) (fun n a rc hJ => ?_) N 128 _ (GcdJ.ini sd (abs_le _) (abs_le _)) (by omega)
    obtain ⟨u, v⟩ := a
    dsimp only at hJ ⊢
    by_cases c : v = 0
    · left
      rw [if_pos ((lg_eq v 0).mpr c)]
      rw [(j0 v).mp c] at hJ
      have v3 := gcdq u hJ.fin
      by_cases cm : lg_cmp u (-9223372036854775808) = 0
      · have hu : u.toInt = -(2 : Int) ^ 63 := by rw [(lg_eq _ _).mp cm, minJ]
        have hgg : g = 2 ^ 63 := by omega
        have hqq : q = 2 ^ 63 := by omega
        have hpp : p = 0 ∨ p = 2 ^ 63 := by
          have hd : g ∣ p := by rw [hg]; exact Nat.gcd_dvd_left _ _
          obtain ⟨r, hr⟩ := hd
          rw [hgg] at hr
          omega
        have eB1 : (-1 : Int64) = lwB p q := (j_eq _ _).mpr (by rw [eB, hqq, hgg]; decide)
        have eA1 : (if lg_cmp (ngA x) (-9223372036854775808) = 0 then (-1 : Int64) else 0) = lwA p q := by
          rcases hpp with h0 | h0
          · rw [if_neg (fun z => by have := congrArg Int64.toInt ((lg_eq _ _).mp z); rw [ux, minJ, h0] at this; omega)]
            exact (j_eq _ _).mpr (by rw [eA, h0, hgg]; decide)
          · rw [if_pos ((lg_eq _ _).mpr ((j_eq _ _).mpr (by rw [ux, minJ, h0]; rfl)))]
            exact (j_eq _ _).mpr (by rw [eA, h0, hgg]; decide)
        rw [jn_e, if_pos cm, jn_if, eA1, eB1]
        dsimp only
        rw [jn_if, jn_if, jn_if, ← hsg2]
        simp only [jn_e, ck_t i4, nm_e1, ck']
      · have hu : u.toInt ≠ -(2 : Int) ^ 63 := fun z => cm ((lg_eq _ _).mpr ((j_eq _ _).mpr (by rw [z, minJ])))
        have g63 : g < 2 ^ 63 := by
          have := jt_lo u
          omega
        have un : ¬ (-u) = 0 := fun z => by
          have h1 := (j0 _).mp z
          rw [jt_neg, v3, Int.neg_neg, bm64 (by omega) (by omega)] at h1
          omega
        have eA1 : ngA x / -u = lwA p q := (j_eq _ _).mpr (by rw [cutM ux v3 g1 g63 p63, eA])
        have eB1 : ngA y / -u = lwB p q := (j_eq _ _).mpr (by rw [cutM uy v3 g1 g63 q63, eB])
        rw [jn_e, if_neg cm, ck_t un, nm_e1, ck_t un, nm_e1, eA1, eB1]
        dsimp only
        rw [jn_if, jn_if, jn_if, ← hsg2]
        simp only [jn_e, ck_t i4, nm_e1, ck']
    · right
      have c' : v.toInt ≠ 0 := fun z => c ((j0 v).mpr z)
      rw [if_neg (fun z => c ((lg_eq v 0).mp z)), ck_t c, nm_e1]
      obtain ⟨m, m1, m2⟩ := hJ.st c'
      exact ⟨m, (v, u - u / v * v), m1, by rw [jt_rem]; exact m2, rfl⟩
  rw [hX, hM]
  exact tl sg hsg

theorem HolOk.put {Mx Mm : Mem} {k : Nat} (a b : Int64) (hb : 0 < b) : HolOk (setJ (setJ (setI Mx (holdC k) 0 1) (holdC k) 1 a) (holdC k) 2 b) (setJ (setJ (setI Mm 11 k 1) 15 k a) 16 k b) k := by
  refine ⟨?_, Or.inr (Or.inl ⟨?_, ?_, ?_, ?_⟩)⟩
  · simp [setJ_1, setI_1, holdC]
  · simp [setJ_1, setI_1]
  · simp [setJ_2, holdC]
  · simp [setJ_2, holdC]
  · simp [setJ_2]; exact hb
theorem Cmp_put {Mx Mm : Mem} {G : Gr} {z : Int32} {ls : Nat → Int64} (hc : Cmp G z ls Mx Mm) {k : Nat} (hk : k ≤ 3) (a b : Int64) (hb : 0 < b) : Cmp G z ls (setJ (setJ (setI Mx (holdC k) 0 1) (holdC k) 1 a) (holdC k) 2 b) (setJ (setJ (setI Mm 11 k 1) 15 k a) 16 k b) := by
  have fx : ∀ q, q ≠ 35 + k → (setJ (setJ (setI Mx (holdC k) 0 1) (holdC k) 1 a) (holdC k) 2 b).1 q = Mx.1 q ∧ (setJ (setJ (setI Mx (holdC k) 0 1) (holdC k) 1 a) (holdC k) 2 b).2 q = Mx.2 q := fun q hq => ⟨by rw [setJ_1, setJ_1, setI_o (by unfold holdC; omega)], by rw [setJ_o (by unfold holdC; omega), setJ_o (by unfold holdC; omega), setI_2]⟩
  refine Cmp_hol hc (fun q h1 h2 => fx q (by omega)) (fun q h1 h2 => ⟨by rw [setJ_1, setJ_1, setI_o (by omega)], by rw [setJ_o (by omega), setJ_o (by omega), setI_2]⟩) (fun j hj => by rw [setJ_1, setJ_1, setI_o (by omega)]) (fun q hq => ?_)
  by_cases e : q = k
  · rw [e]; exact HolOk.put a b hb
  · refine (hc.2.2.2.2.2.2.1 q hq).ag (fx _ (by omega)) (fun c h1 h2 => ⟨?_, ?_⟩)
    · simp [setJ_1, setI_1, e]
    · simp [setJ_2, setI_2, e]
theorem s_26 {N : Nat} (hN : 2000 ≤ N) : St_26 N Rel := by
  intro Mx Mm a0 a1 a2 h
  apply rr_st
  obtain ⟨G, z, ls, hc⟩ := id h
  unfold f_X7_fraction f_X8_fraction
  rw [isHX, isHM, bd_s, bd_s, ite_bI, ite_bI]
  refine rr_ite Iff.rfl (fun hv => ?_) (fun _ => rr_ret ⟨rfl, h⟩)
  obtain ⟨k, hk, rfl⟩ := nI_of_le 3 (by decide) hv
  have i4 : inb (nI k) 4 := inb_nI (by omega) (by decide)
  have ck' : (nI k).toNatClampNeg = k := nI_clamp (by omega)
  by_cases c : lg_cmp a2 0 = 0
  · unfold f_X8_gets
    rw [if_pos c, if_pos c, bd_s]
    exact rr_ret ⟨rfl, h⟩
  · rw [if_neg c, ck_t i4, ck']
    refine rr_bd (Q := PR) (frac_rr hN hk a1 a2 (fun q => c ((lg_eq _ _).mpr q)) Mx Mm PR ⟨rfl, h⟩ (fun a b hb => ⟨rfl, G, z, ls, Cmp_put hc hk a b hb⟩)) (fun a b hab => rr_ret hab)
