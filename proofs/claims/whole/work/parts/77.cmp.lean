/-! fractions compared -/
theorem td_0 {a b : Int} (hb : 0 < b) : (0 ≤ a.tmod b → a / b = a.tdiv b ∧ a % b = a.tmod b) ∧ (a.tmod b < 0 → a / b = a.tdiv b - 1 ∧ a % b = a.tmod b + b) := by
  have h1 := Int.emod_nonneg a (show b ≠ 0 by omega)
  have h2 := Int.emod_lt_of_pos a hb
  have e1 := @Int.tdiv_eq_ediv a b
  have e2 := @Int.tmod_eq_emod a b
  have e3 : b.sign = 1 := Int.sign_eq_one_of_pos hb
  rw [e3] at e1
  by_cases c : 0 ≤ a ∨ b ∣ a
  · rw [if_pos c] at e1 e2; omega
  · rw [if_neg c] at e1 e2; omega
theorem ediv_rg {a b : Int} (hb : 0 < b) (h1 : -(2 : Int) ^ 63 ≤ a) (h2 : a < (2 : Int) ^ 63) : -(2 : Int) ^ 63 ≤ a / b ∧ a / b < (2 : Int) ^ 63 := by
  have h3 := Int.emod_nonneg a (show b ≠ 0 by omega)
  have h4 := Int.emod_lt_of_pos a hb
  have h5 := Int.mul_ediv_add_emod a b
  constructor
  · apply Int.le_ediv_of_mul_le hb
    have : -(2 : Int) ^ 63 * b ≤ -(2 : Int) ^ 63 * 1 := Int.mul_le_mul_of_nonpos_left (by omega) (by omega)
    omega
  · apply Int.ediv_lt_of_lt_mul hb
    have : (2 : Int) ^ 63 * 1 ≤ (2 : Int) ^ 63 * b := Int.mul_le_mul_of_nonneg_left (by omega) (by omega)
    omega
theorem tdiv_rg {a b : Int} (hb : 0 < b) (h1 : -(2 : Int) ^ 63 ≤ a) (h2 : a < (2 : Int) ^ 63) : -(2 : Int) ^ 63 ≤ a.tdiv b ∧ a.tdiv b < (2 : Int) ^ 63 := by
  have h3 := ediv_rg hb h1 h2
  rcases Int.lt_or_le (a.tmod b) 0 with c | c
  · have := (td_0 hb).2 c
    have hm : a < 0 := by
      rcases Int.lt_or_le a 0 with q | q
      · exact q
      · have := Int.tmod_nonneg b q; omega
    have : a / b < 0 := Int.ediv_neg_of_neg_of_pos hm hb
    omega
  · have := (td_0 hb).1 c; omega
theorem jdiv_t {a b : Int64} (hb : 0 < b) : (a / b).toInt = a.toInt.tdiv b.toInt := by
  have h := tdiv_rg (j_pos' hb) (jt_lo a) (jt_hi a)
  rw [jt_div, bm64 h.1 h.2]
theorem ngx {a b : Int64} (hb : 0 < b) : ngB (a ^^^ b) = ngB a := by
  have h : ngB b = false := by unfold ngB; exact decide_eq_false (fun q => by have := (j_lt _ _).mp q; have := j_pos' hb; have e : (0 : Int64).toInt = 0 := rfl; omega)
  rw [ngB_xor, h, Bool.xor_false]
theorem ngB_t (a : Int64) : ngB a = true ↔ a.toInt < 0 := by unfold ngB; rw [decide_eq_true_iff, j_lt]; rfl
theorem fdX {N : Nat} {M : Mem} {a b : Int64} (hb : 0 < b) : ∃ q, f_J9_floorDiv_f86c9 N a b M = some q ∧ q.toInt = a.toInt / b.toInt := by
  have hb' := j_pos' hb
  have al := jt_lo a
  have ah := jt_hi a
  have rg := ediv_rg hb' al ah
  have e1 : (1 : Int64).toInt = 1 := rfl
  unfold f_J9_floorDiv_f86c9
  rw [ck_t (j_pos hb).1, nm_e1, if_ng, ngx hb]
  have hm := Int.tmod_def a.toInt b.toInt
  have hc := Int.mul_comm b.toInt (a.toInt.tdiv b.toInt)
  cases h : ngB a with
  | false =>
    rw [if_neg (by decide)]
    have ha : ¬ a.toInt < 0 := fun q => by rw [(ngB_t a).mpr q] at h; exact absurd h (by decide)
    refine ⟨_, rfl, ?_⟩
    rw [jdiv_t hb, ((td_0 hb').1 (Int.tmod_nonneg _ (by omega))).1]
  | true =>
    rw [if_pos rfl]
    have ha := (ngB_t a).mp h
    have hn : a.toInt.tmod b.toInt ≤ 0 := by
      have := Int.tmod_nonneg (a := -a.toInt) b.toInt (by omega)
      rw [Int.neg_tmod] at this; omega
    have hna : a.toInt ≤ a.toInt.tmod b.toInt := by
      have h1 := Int.natAbs_tmod a.toInt b.toInt
      have h2 := Nat.mod_le a.toInt.natAbs b.toInt.natAbs
      omega
    have hp : (a / b * b).toInt = a.toInt - a.toInt.tmod b.toInt := by
      rw [jt_mul, jdiv_t hb, show a.toInt.tdiv b.toInt * b.toInt = a.toInt - a.toInt.tmod b.toInt by omega, bm64 (by omega) (by omega)]
    by_cases c : lg_cmp (a / b * b) a = 0
    · rw [if_pos c]
      have h1 := congrArg Int64.toInt ((lg_eq _ _).mp c)
      refine ⟨_, rfl, ?_⟩
      rw [jdiv_t hb, ((td_0 hb').1 (by omega)).1]
    · rw [if_neg c]
      have h1 : a.toInt.tmod b.toInt ≠ 0 := fun q => c ((lg_eq _ _).mpr ((j_eq _ _).mpr (by rw [hp, q]; omega)))
      have h2 := (td_0 (a := a.toInt) hb').2 (by omega)
      refine ⟨_, rfl, ?_⟩
      rw [jt_sub, jdiv_t hb, e1, ← h2.1, bm64 rg.1 rg.2]
theorem fmX {N : Nat} {M : Mem} {a b : Int64} (hb : 0 < b) : ∃ q, f_J9_floorMod_f86c9 N a b M = some q ∧ q.toInt = a.toInt % b.toInt := by
  have hb' := j_pos' hb
  have bh := jt_hi b
  have h1 := Int.emod_nonneg a.toInt (show b.toInt ≠ 0 by omega)
  have h2 := Int.emod_lt_of_pos a.toInt hb'
  unfold f_J9_floorMod_f86c9
  rw [ck_t (j_pos hb).1, nm_e1, if_ng, ngx hb]
  cases h : ngB a with
  | false =>
    rw [if_neg (by decide)]
    have ha : ¬ a.toInt < 0 := fun q => by rw [(ngB_t a).mpr q] at h; exact absurd h (by decide)
    refine ⟨_, rfl, ?_⟩
    rw [jt_rem, ((td_0 hb').1 (Int.tmod_nonneg _ (by omega))).2]
  | true =>
    rw [if_pos rfl]
    have ha := (ngB_t a).mp h
    have hn : a.toInt.tmod b.toInt ≤ 0 := by
      have := Int.tmod_nonneg (a := -a.toInt) b.toInt (by omega)
      rw [Int.neg_tmod] at this; omega
    by_cases c : lg_cmp (a - a / b * b) 0 = 0
    · rw [if_pos c]
      have h3 := (j0 _).mp ((lg_eq _ _).mp c)
      rw [jt_rem] at h3
      exact ⟨_, rfl, by rw [jt_rem, ((td_0 hb').1 (by omega)).2]⟩
    · rw [if_neg c]
      have h3 : a.toInt.tmod b.toInt ≠ 0 := fun q => c ((lg_eq _ _).mpr ((j0 _).mpr (by rw [jt_rem, q])))
      have h4 := (td_0 (a := a.toInt) hb').2 (by omega)
      exact ⟨_, rfl, by rw [jt_add, jt_rem, ← h4.2, bm64 (by omega) (by omega)]⟩
theorem unM {N : Nat} {M : Mem} {a b : Int64} (hb : 0 < b) : ∃ q, f_X8_under N a b M = some q ∧ q.toInt = a.toInt / b.toInt ∧ (a - q * b).toInt = a.toInt % b.toInt := by
  have hb' := j_pos' hb
  have al := jt_lo a
  have ah := jt_hi a
  have rg := ediv_rg hb' al ah
  have bh := jt_hi b
  have e1 : (1 : Int64).toInt = 1 := rfl
  have h1 := Int.emod_nonneg a.toInt (show b.toInt ≠ 0 by omega)
  have h2 := Int.emod_lt_of_pos a.toInt hb'
  have key : ∀ q : Int64, q.toInt = a.toInt / b.toInt → (a - q * b).toInt = a.toInt % b.toInt := by
    intro q hq
    have h3 := Int.mul_ediv_add_emod a.toInt b.toInt
    have h4 := Int.mul_comm b.toInt (a.toInt / b.toInt)
    rw [jt_sub, jt_mul, Int.sub_bmod_bmod, hq, show a.toInt - a.toInt / b.toInt * b.toInt = a.toInt % b.toInt by omega, bm64 (by omega) (by omega)]
  unfold f_X8_under
  simp only [ck_t (j_pos hb).1]
  rw [if_ng]
  cases h : ngB (a - a / b * b) with
  | false =>
    rw [if_neg (by decide)]
    have h3 : ¬ (a - a / b * b).toInt < 0 := fun q => by rw [(ngB_t _).mpr q] at h; exact absurd h (by decide)
    rw [jt_rem] at h3
    have h4 : (a / b).toInt = a.toInt / b.toInt := by rw [jdiv_t hb, ((td_0 hb').1 (by omega)).1]
    exact ⟨_, rfl, h4, key _ h4⟩
  | true =>
    rw [if_pos rfl]
    have h3 := (ngB_t _).mp h
    rw [jt_rem] at h3
    have h4 : (a / b - 1).toInt = a.toInt / b.toInt := by rw [jt_sub, jdiv_t hb, e1, ← ((td_0 hb').2 h3).1, bm64 rg.1 rg.2]
    exact ⟨_, rfl, h4, key _ h4⟩
/-- how long the comparing goes on -/
def CmJ (n : Nat) (a b : Int) : Prop := 0 ≤ a ∧ n ≤ 128 ∧ EuM n a.natAbs b.natAbs ∨ n = 129
theorem CmJ.st {n : Nat} {a b : Int} (h : CmJ n a b) (hb : 0 < b) (hb2 : b < 2 ^ 63) : ∃ m, m < n ∧ CmJ m b (a % b) := by
  have h1 := Int.emod_nonneg a (show b ≠ 0 by omega)
  have h2 := Int.emod_lt_of_pos a hb
  rcases h with ⟨h0, h3, h4⟩ | h0
  · obtain ⟨m, m1, m2⟩ := eu_step h4 (by omega)
    refine ⟨m, m1, Or.inl ⟨by omega, by omega, ?_⟩⟩
    have e : (a % b).natAbs = a.natAbs % b.natAbs := by
      obtain ⟨x, rfl⟩ := Int.eq_ofNat_of_zero_le h0
      obtain ⟨y, rfl⟩ := Int.eq_ofNat_of_zero_le (show 0 ≤ b by omega)
      rw [← Int.natCast_emod]; rfl
    rw [e]; exact m2
  · exact ⟨128, by omega, Or.inl ⟨by omega, by omega, eu_0 (by omega) (by omega)⟩⟩
theorem cpJ {N : Nat} {M : Mem} (x y : Int64) : f_J13_compare_74951 N x y M = some (if y.toInt < x.toInt then 1 else if x.toInt = y.toInt then 0 else -1) := by
  unfold f_J13_compare_74951
  by_cases c : 0 ≤ lg_cmp x y
  · rw [if_pos c]
    rw [lg_ge, j_le] at c
    by_cases d : lg_cmp x y = 0
    · rw [if_pos d]
      rw [lg_eq, j_eq] at d
      rw [if_neg (by omega), if_pos d]
    · rw [if_neg d]
      rw [lg_eq, j_eq] at d
      rw [if_pos (by omega)]
  · rw [if_neg c]
    rw [lg_ge, j_le] at c
    rw [if_neg (by omega), if_neg (by omega)]
theorem ord_rr {N : Nat} (hN : 2000 ≤ N) {Mx Mm : Mem} {c0 c1 : Nat} {a b c d : Int64} (ha : Mx.2 c0 1 = a) (hb : Mx.2 c0 2 = b) (hc : Mx.2 c1 1 = c) (hd : Mx.2 c1 2 = d) (b0 : 0 < b) (d0 : 0 < d) : RR (fun u v => (1 : Int32) + u = v) (f_X7_order N c0 c1 Mx) (lp (fun (k45 : (Int64 × Int64 × Int64 × Int64) → Option (Int32)) (a45 : Int64 × Int64 × Int64 × Int64) => bd (f_X8_under N a45.1 a45.2.1 Mm) (fun v7 => bd (f_X8_under N a45.2.2.1 a45.2.2.2 Mm) (fun v9 => if (lg_cmp v7 v9) = 0 then (nm (a45.1 - (v7 * a45.2.1)) (fun v11 => nm (a45.2.2.1 - (v9 * a45.2.2.2)) (fun v12 => jn (fun (a119 : Unit) => if (lg_cmp v11 v12) = 0 then (some (1 : Int32)) else (if (lg_cmp v11 (0 : Int64)) = 0 then (some (0 : Int32)) else (some (2 : Int32)))) (fun (k119 : Unit → Option (Int32)) => if (lg_cmp v11 (0 : Int64)) = 0 then (k119 ()) else (if (lg_cmp v12 (0 : Int64)) = 0 then (k119 ()) else (k45 (a45.2.2.2, v12, a45.2.1, v11))))))) else (if 0 ≤ (lg_cmp v7 v9) then (some (2 : Int32)) else (some (0 : Int32)))))) N (a, b, c, d)) := by
  unfold f_X7_order
  rw [nm_e1, nm_e1, nm_e1, nm_e1, ha, hb, hc, hd]
  refine rr_lp (fun n (x : Int64 × Int64 × Int64 × Int64 × Int32 × Int32) (y : Int64 × Int64 × Int64 × Int64) => CmJ n x.1.toInt x.2.1.toInt ∧ 0 < x.2.1 ∧ 0 < x.2.2.2.1 ∧ (∃ k, k + n ≤ 129 ∧ x.2.2.2.2.2 = nI k) ∧ (x.2.2.2.2.1 = 1 ∧ y = (x.1, x.2.1, x.2.2.1, x.2.2.2.1) ∨ x.2.2.2.2.1 = -1 ∧ y = (x.2.2.1, x.2.2.2.1, x.1, x.2.1))) (fun n x y rc rc' hJ => ?_) N 129 _ _ ⟨Or.inr rfl, b0, d0, ⟨0, by omega, rfl⟩, Or.inl ⟨rfl, rfl⟩⟩ (by omega)
  obtain ⟨p, q, r, s, sg, st⟩ := x
  obtain ⟨j1, j2, j3, ⟨k, j4, j5⟩, j6⟩ := hJ
  dsimp only at j1 j2 j3 j5 j6 ⊢
  subst j5
  obtain ⟨w1, e1, f1⟩ := fdX (N := N) (M := Mx) (a := p) j2
  obtain ⟨w2, e2, f2⟩ := fdX (N := N) (M := Mx) (a := r) j3
  obtain ⟨m1, e3, f3⟩ := fmX (N := N) (M := Mx) (a := p) j2
  obtain ⟨m2, e4, f4⟩ := fmX (N := N) (M := Mx) (a := r) j3
  obtain ⟨u1, e5, f5, g5⟩ := unM (N := N) (M := Mm) (a := p) j2
  obtain ⟨u2, e6, f6, g6⟩ := unM (N := N) (M := Mm) (a := r) j3
  have u1e : u1 = w1 := (j_eq _ _).mpr (by rw [f5, f1])
  have u2e : u2 = w2 := (j_eq _ _).mpr (by rw [f6, f2])
  have l1 : p - u1 * q = m1 := (j_eq _ _).mpr (by rw [g5, f3])
  have l2 : r - u2 * s = m2 := (j_eq _ _).mpr (by rw [g6, f4])
  subst u1e u2e
  have m1n : 0 ≤ m1.toInt := by rw [f3]; exact Int.emod_nonneg _ (by have := j_pos' j2; omega)
  have m2n : 0 ≤ m2.toInt := by rw [f4]; exact Int.emod_nonneg _ (by have := j_pos' j3; omega)
  have z0 : (0 : Int64).toInt = 0 := rfl
  have n1 : ¬ lg_cmp q 0 ≤ 0 := by rw [lg_le, j_le]; have := j_pos' j2; omega
  have n2 : ¬ lg_cmp s 0 ≤ 0 := by rw [lg_le, j_le]; have := j_pos' j3; omega
  rw [if_neg n1, if_neg n2, if_neg (show ¬ (200 : Int32) ≤ nI k from nI_ge (b := 200) (by omega) (by decide)), e1, bd_s, e2, bd_s]
  rcases j6 with ⟨rfl, rfl⟩ | ⟨rfl, rfl⟩
  · dsimp only
    rw [e5, bd_s, e6, bd_s]
    by_cases c1 : lg_cmp u1 u2 = 0
    rotate_left
    · left
      rw [if_neg c1, if_neg c1]
      refine rr_ite Iff.rfl (fun _ => rr_ret rfl) (fun _ => rr_ret rfl)
    rw [if_pos c1, if_pos c1, e3, bd_s, e4, bd_s]
    simp only [nm_e1, jn_e, l1, l2, cpJ, bd_s, nI_1]
    by_cases c2 : m1.toInt = 0
    · left
      have q1 : lg_cmp m1 0 = 0 := (lg_eq _ _).mpr ((j0 _).mpr c2)
      rw [if_pos q1, if_pos q1]
      by_cases c3 : lg_cmp m1 m2 = 0
      · rw [if_pos c3]
        have := congrArg Int64.toInt ((lg_eq _ _).mp c3)
        rw [if_neg (by omega), if_pos this]; exact rr_ret rfl
      · rw [if_neg c3, if_pos q1]
        have : m1.toInt ≠ m2.toInt := fun z => c3 ((lg_eq _ _).mpr ((j_eq _ _).mpr z))
        rw [if_neg (by omega), if_neg this]; exact rr_ret rfl
    · have q1 : ¬ lg_cmp m1 0 = 0 := fun z => c2 ((j0 _).mp ((lg_eq _ _).mp z))
      rw [if_neg q1, if_neg q1]
      by_cases c3 : m2.toInt = 0
      · left
        have q2 : lg_cmp m2 0 = 0 := (lg_eq _ _).mpr ((j0 _).mpr c3)
        have q3 : ¬ lg_cmp m1 m2 = 0 := fun z => c2 (by rw [congrArg Int64.toInt ((lg_eq _ _).mp z), c3])
        rw [if_pos q2, if_pos q2, if_neg q3, if_neg q1, if_pos (by omega)]; exact rr_ret rfl
      · right
        have q2 : ¬ lg_cmp m2 0 = 0 := fun z => c3 ((j0 _).mp ((lg_eq _ _).mp z))
        rw [if_neg q2, if_neg q2]
        obtain ⟨m, hm1, hm2⟩ := j1.st (j_pos' j2) (jt_hi q)
        refine ⟨m, _, _, hm1, ⟨by show CmJ m q.toInt m1.toInt; rw [f3]; exact hm2, (j_lt _ _).mpr (by show 0 < m1.toInt; omega), (j_lt _ _).mpr (by show 0 < m2.toInt; omega), ⟨k + 1, by omega, rfl⟩, Or.inr ⟨rfl, rfl⟩⟩, rfl, rfl⟩
  · dsimp only
    rw [e6, bd_s, e5, bd_s]
    by_cases c1 : lg_cmp u1 u2 = 0
    rotate_left
    · left
      have c1' : ¬ lg_cmp u2 u1 = 0 := fun z => c1 ((lg_eq _ _).mpr ((lg_eq _ _).mp z).symm)
      rw [if_neg c1, if_neg c1']
      by_cases c2 : 0 ≤ lg_cmp u1 u2
      · have : ¬ 0 ≤ lg_cmp u2 u1 := by
          rw [lg_ge, j_le] at *
          have : u1.toInt ≠ u2.toInt := fun z => c1 ((lg_eq _ _).mpr ((j_eq _ _).mpr z))
          omega
        rw [if_pos c2, if_neg this]; exact rr_ret rfl
      · have : 0 ≤ lg_cmp u2 u1 := by
          rw [lg_ge, j_le] at *
          omega
        rw [if_neg c2, if_pos this]; exact rr_ret rfl
    have c1' : lg_cmp u2 u1 = 0 := (lg_eq _ _).mpr ((lg_eq _ _).mp c1).symm
    rw [if_pos c1, if_pos c1', e3, bd_s, e4, bd_s]
    simp only [nm_e1, jn_e, l1, l2, cpJ, bd_s, nI_1]
    by_cases c2 : m2.toInt = 0
    · left
      have q1 : lg_cmp m2 0 = 0 := (lg_eq _ _).mpr ((j0 _).mpr c2)
      rw [if_pos q1, if_pos q1]
      by_cases c3 : m1.toInt = 0
      · have q3 : lg_cmp m2 m1 = 0 := (lg_eq _ _).mpr ((j_eq _ _).mpr (by omega))
        have q4 : lg_cmp m1 0 = 0 := (lg_eq _ _).mpr ((j0 _).mpr c3)
        rw [if_pos q3, if_pos q4, if_neg (by omega), if_pos (by omega)]; exact rr_ret rfl
      · have q3 : ¬ lg_cmp m2 m1 = 0 := fun z => c3 (by rw [← congrArg Int64.toInt ((lg_eq _ _).mp z), c2])
        have q4 : ¬ lg_cmp m1 0 = 0 := fun z => c3 ((j0 _).mp ((lg_eq _ _).mp z))
        rw [if_neg q3, if_pos q1, if_neg q4, if_pos (by omega)]; exact rr_ret rfl
    · have q1 : ¬ lg_cmp m2 0 = 0 := fun z => c2 ((j0 _).mp ((lg_eq _ _).mp z))
      rw [if_neg q1, if_neg q1]
      by_cases c3 : m1.toInt = 0
      · left
        have q2 : lg_cmp m1 0 = 0 := (lg_eq _ _).mpr ((j0 _).mpr c3)
        have q3 : ¬ lg_cmp m2 m1 = 0 := fun z => c2 (by rw [congrArg Int64.toInt ((lg_eq _ _).mp z), c3])
        rw [if_pos q2, if_pos q2, if_neg q3, if_neg q1, if_neg (by omega), if_neg (by omega)]; exact rr_ret rfl
      · right
        have q2 : ¬ lg_cmp m1 0 = 0 := fun z => c3 ((j0 _).mp ((lg_eq _ _).mp z))
        rw [if_neg q2, if_neg q2]
        obtain ⟨m, hm1, hm2⟩ := j1.st (j_pos' j2) (jt_hi q)
        refine ⟨m, _, _, hm1, ⟨by show CmJ m q.toInt m1.toInt; rw [f3]; exact hm2, (j_lt _ _).mpr (by show 0 < m1.toInt; omega), (j_lt _ _).mpr (by show 0 < m2.toInt; omega), ⟨k + 1, by omega, rfl⟩, Or.inl ⟨rfl, rfl⟩⟩, rfl, rfl⟩
theorem s_29 {N : Nat} (hN : 2000 ≤ N) : St_29 N Rel := by
  intro Mx Mm a0 a1 h
  obtain ⟨G, z, ls, hc⟩ := id h
  have hH := hc.2.2.2.2.2.2.1
  suffices q : RR (fun a b => a = b) (f_X7_compare N a0 a1 Mx) (f_X8_compare N a0 a1 Mm) by
    obtain ⟨a, b, e1, e2, rfl⟩ := q
    exact ⟨a, e1, e2, h⟩
  unfold f_X7_compare f_X8_compare
  obtain ⟨r, r1, r2, r3⟩ := refF (N := N) hH a0 a1
  rw [r1, r2, bd_s, bd_s]
  rcases r3 with ⟨rfl, k, g, hk, hg, rfl, rfl, ek, eg⟩ | r3
  rotate_left
  · have r4 : ¬ 0 ≤ r := by rw [i_lt] at r3; rw [i_le]; omega
    have r5 : ¬ r = 0 := fun q => by rw [q] at r3; exact absurd r3 (by decide)
    rw [if_neg r4, if_neg r5]; exact rr_ret rfl
  rw [if_pos (by decide), if_pos rfl]
  have ih : inb (nI k) 4 := inb_nI (by omega) (by decide)
  have ig : inb (nI g) 4 := inb_nI (by omega) (by decide)
  have ch : (nI k).toNatClampNeg = k := nI_clamp (by omega)
  have cg : (nI g).toNatClampNeg = g := nI_clamp (by omega)
  obtain ⟨x1, x2, x3⟩ := (hH k (by omega)).is1 ek
  obtain ⟨y1, y2, y3⟩ := (hH g (by omega)).is1 eg
  rw [ck_t ih, ck_t ig, ck_t ih, nm_e1, ck_t ih, nm_e1, ck_t ig, nm_e1, ck_t ig, nm_e1, ch, cg]
  obtain ⟨u, v, hu, hv, huv⟩ := ord_rr (Mm := Mm) hN (Mx := Mx) (c0 := holdC k) (c1 := holdC g) x1 x2 y1 y2 x3 y3
  rw [hu, hv, bd_s]
  exact rr_ret huv
