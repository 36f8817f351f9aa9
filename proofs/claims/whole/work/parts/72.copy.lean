/-! a stretch of a sheet comes to another -/
theorem strX {N c : Nat} {x y : Int32} {M : Mem} : f_X5_hasStretch N c x y M = some (bI (0 ≤ x ∧ 0 ≤ y ∧ x ≤ M.1 c 1 - y)) := by
  unfold f_X5_hasStretch bI
  rw [jn_e]
  have h1 : x < 0 ↔ ¬ 0 ≤ x := by rw [i_lt, i_le]; omega
  have h3 : y < 0 ↔ ¬ 0 ≤ y := by rw [i_lt, i_le]; omega
  have h2 : M.1 c 1 - y < x ↔ ¬ x ≤ M.1 c 1 - y := by rw [i_lt, i_le]; omega
  by_cases c1 : 0 ≤ x <;> by_cases c3 : 0 ≤ y <;> by_cases c2 : x ≤ M.1 c 1 - y <;> simp [h1, h2, h3, c1, c2, c3]
/-- memory with a stretch of longs moved within one cell: the first i from below, or the last i -/
def mvU (M : Mem) (s t n i : Nat) : Mem := (M.1, fun a b => if a = 22 ∧ t + (n - i) ≤ b ∧ b < t + n then M.2 22 (s + (b - t)) else M.2 a b)
def mvD (M : Mem) (s t i : Nat) : Mem := (M.1, fun a b => if a = 22 ∧ t ≤ b ∧ b < t + i then M.2 22 (s + (b - t)) else M.2 a b)
theorem mvU_0 (M : Mem) (s t n : Nat) : mvU M s t n 0 = M := by
  refine Prod.ext rfl ?_
  funext a b
  show (if _ then _ else _) = _
  rw [if_neg (by omega)]
theorem mvD_0 (M : Mem) (s t : Nat) : mvD M s t 0 = M := by
  refine Prod.ext rfl ?_
  funext a b
  show (if _ then _ else _) = _
  rw [if_neg (by omega)]
theorem mvU_s (M : Mem) (s t n i : Nat) (hi : i < n) (h : s < t) : setJ (mvU M s t n i) 22 (t + (n - 1 - i)) ((mvU M s t n i).2 22 (s + (n - 1 - i))) = mvU M s t n (i + 1) := by
  have e : (mvU M s t n i).2 22 (s + (n - 1 - i)) = M.2 22 (s + (n - 1 - i)) := by unfold mvU; dsimp only; rw [if_neg (by omega)]
  rw [e]
  refine Prod.ext rfl ?_
  funext a b
  rw [setJ_2]
  show (if _ then (if _ then _ else (if _ then _ else _)) else (if _ then _ else _)) = (if _ then _ else _)
  by_cases ha : a = 22
  · rw [if_pos ha]
    by_cases hb : b = t + (n - 1 - i)
    · rw [if_pos hb, if_pos (by omega), hb, show t + (n - 1 - i) - t = n - 1 - i by omega]
    · rw [if_neg hb]
      by_cases hq : t + (n - i) ≤ b ∧ b < t + n
      · rw [if_pos ⟨ha, hq⟩, if_pos (by omega)]
      · rw [if_neg (fun q => hq q.2), if_neg (by omega)]
  · rw [if_neg ha, if_neg (fun q => ha q.1), if_neg (fun q => ha q.1)]
theorem mvD_s (M : Mem) (s t i : Nat) (h : t ≤ s) : setJ (mvD M s t i) 22 (t + i) ((mvD M s t i).2 22 (s + i)) = mvD M s t (i + 1) := by
  have e : (mvD M s t i).2 22 (s + i) = M.2 22 (s + i) := by unfold mvD; dsimp only; rw [if_neg (by omega)]
  rw [e]
  refine Prod.ext rfl ?_
  funext a b
  rw [setJ_2]
  show (if _ then (if _ then _ else (if _ then _ else _)) else (if _ then _ else _)) = (if _ then _ else _)
  by_cases ha : a = 22
  · rw [if_pos ha]
    by_cases hb : b = t + i
    · rw [if_pos hb, if_pos (by omega), hb, show t + i - t = i by omega]
    · rw [if_neg hb]
      by_cases hq : t ≤ b ∧ b < t + i
      · rw [if_pos ⟨ha, hq⟩, if_pos (by omega)]
      · rw [if_neg (fun q => hq q.2), if_neg (by omega)]
  · rw [if_neg ha, if_neg (fun q => ha q.1), if_neg (fun q => ha q.1)]
theorem mvU_all (M : Mem) (s t n : Nat) : mvU M s t n n = mvD M s t n := by unfold mvU mvD; rw [Nat.sub_self]; rfl
theorem subI_le {n m : Nat} (hn : n ≤ 40) (hm : m < 2 ^ 31) (x : Int32) (h0 : 0 ≤ x) : x ≤ nI n - nI m ↔ x.toInt + m ≤ n := by
  have e : (nI n - nI m).toInt = (n : Int) - m := by
    rw [Int32.toInt_sub, nI_toInt (by omega), nI_toInt hm, Int.bmod_eq_of_le (by omega) (by omega)]
  rw [i_le, e]; omega
theorem s_39 {N : Nat} (hN : 2000 ≤ N) : St_39 N Rel := by
  intro Mx Mm a0 a1 a2 a3 a4 h
  apply rr_st
  obtain ⟨G, z, ls, hc⟩ := id h
  have hS := hc.2.2.2.2.2.2.2.1
  unfold f_X7_copy f_X8_copy
  rw [isShX, isShM, bd_s, bd_s, ite_bI, ite_bI]
  refine rr_ite Iff.rfl (fun hv => ?_) (fun _ => rr_ret ⟨rfl, h⟩)
  rw [isShX, isShM, bd_s, bd_s, ite_bI, ite_bI]
  refine rr_ite Iff.rfl (fun hw => ?_) (fun _ => rr_ret ⟨rfl, h⟩)
  obtain ⟨s, hs, rfl⟩ := nI_of_le 3 (by decide) hv
  obtain ⟨t, ht, rfl⟩ := nI_of_le 3 (by decide) hw
  have s4 : inb (nI s) 4 := inb_nI (by omega) (by decide)
  have t4 : inb (nI t) 4 := inb_nI (by omega) (by decide)
  have cs : (nI s).toNatClampNeg = s := nI_clamp (by omega)
  have ct : (nI t).toNatClampNeg = t := nI_clamp (by omega)
  obtain ⟨p1, p2⟩ := hS s (by omega)
  obtain ⟨q1, q2⟩ := hS t (by omega)
  have p1 : Mx.1 (sheetC s) 0 = Mm.1 20 s := p1
  have q1 : Mx.1 (sheetC t) 0 = Mm.1 20 t := q1
  simp only [ck_t s4, ck_t t4, cs, ct, missX, bd_s, ite_bI, p1, q1]
  refine rr_ite Iff.rfl (fun _ => rr_ret ⟨rfl, h⟩) (fun p3 => ?_)
  refine rr_ite Iff.rfl (fun _ => rr_ret ⟨rfl, h⟩) (fun q3 => ?_)
  refine rr_ite Iff.rfl (fun e1 => ?_) (fun _ => rr_ret ⟨rfl, h⟩)
  rcases p2 with p2 | ⟨p2, n, n1, n2, n3, n4⟩
  · exact absurd p2 p3
  rcases q2 with q2 | ⟨q2, m, m1, m2, m3, m4⟩
  · exact absurd q2 q3
  have n2 : Mx.1 (sheetC s) 1 = nI n := n2
  have m2 : Mx.1 (sheetC t) 1 = nI m := m2
  simp only [strX, n2, m2, n3, m3, bd_s, ite_bI]
  by_cases c4 : a4 < 0
  · rw [if_pos c4, if_neg (fun q => by have h1 := (i_lt _ _).mp c4; have h2 := (i_le _ _).mp q.2.1; omega)]
    exact rr_ret ⟨rfl, h⟩
  by_cases c1 : a1 < 0
  · rw [if_neg c4, if_pos c1, if_neg (fun q => by have h1 := (i_lt _ _).mp c1; have h2 := (i_le _ _).mp q.1; omega)]
    exact rr_ret ⟨rfl, h⟩
  rw [if_neg c4, if_neg c1]
  obtain ⟨k, hk, rfl⟩ := nI_of c4
  obtain ⟨i, hi, rfl⟩ := nI_of c1
  have k0 : (0 : Int32) ≤ nI k := nI_pos' hk
  have i0 : (0 : Int32) ≤ nI i := nI_pos' hi
  have f1 : nI i ≤ nI n - nI k ↔ i + k ≤ n := by rw [subI_le n1 hk _ i0, nI_toInt hi]; omega
  by_cases c3 : a3 < 0
  · rw [if_pos c3]
    by_cases cc : nI i ≤ nI n - nI k
    · rw [if_pos ⟨i0, k0, cc⟩, if_neg (fun q => by have h1 := (i_lt _ _).mp c3; have h2 := (i_le _ _).mp q.1; omega)]
      exact rr_ret ⟨rfl, h⟩
    · rw [if_neg (fun q => cc q.2.2)]
      exact rr_ret ⟨rfl, h⟩
  rw [if_neg c3]
  obtain ⟨j, hj, rfl⟩ := nI_of c3
  have j0 : (0 : Int32) ≤ nI j := nI_pos' hj
  have f2 : nI j ≤ nI m - nI k ↔ j + k ≤ m := by rw [subI_le m1 hk _ j0, nI_toInt hj]; omega
  have f3 : nI n - nI k < nI i ↔ ¬ (i + k ≤ n) := by rw [← f1, i_lt, i_le]; omega
  by_cases d1 : i + k ≤ n
  rotate_left
  · rw [if_neg (fun q => d1 (f1.mp q.2.2)), if_pos (f3.mpr d1)]
    exact rr_ret ⟨rfl, h⟩
  rw [if_pos ⟨i0, k0, f1.mpr d1⟩, if_neg (fun q => f3.mp q d1)]
  by_cases d2 : j + k ≤ m
  rotate_left
  · rw [if_neg (fun q => d2 (f2.mp q.2.2)), if_neg (fun q => d2 (f2.mp q))]
    exact rr_ret ⟨rfl, h⟩
  rw [if_pos ⟨j0, k0, f2.mpr d2⟩, if_pos (f2.mpr d2)]
  have ci : (nI i).toNatClampNeg = i := nI_clamp hi
  have cj : (nI j).toNatClampNeg = j := nI_clamp hj
  have ck' : (nI k).toNatClampNeg = k := nI_clamp hk
  rw [ck_t ⟨nI_pos hi, nI_pos hj, nI_pos hk, by rw [ci, ck']; omega, by rw [cj, ck']; omega⟩, nm_e1, ci, cj, ck']
  have hm : ∀ (up : Int32), (up = 0 ∧ 40 * t + j ≤ 40 * s + i ∨ up = 1 ∧ 40 * s + i < 40 * t + j) → lp (fun (k128 : (Int32 × Mem) → Option (Int32 × Mem)) (a128 : Int32 × Mem) => if nI k ≤ a128.1 then (some (nI k, a128.2)) else (jn (fun (a152 : Int32) => ck (inb ((((40 : Int32) * nI s) + nI i) + a152) 160) (ck (inb ((((40 : Int32) * nI t) + nI j) + a152) 160) (nm (setJ a128.2 22 ((((40 : Int32) * nI t) + nI j) + a152).toNatClampNeg (a128.2.2 22 ((((40 : Int32) * nI s) + nI i) + a152).toNatClampNeg)) (fun M5 => nm (a128.1 + (1 : Int32)) (fun v6 => k128 (v6, M5)))))) (fun (k152 : Int32 → Option (Int32 × Mem)) => if up = 0 then (k152 a128.1) else (k152 ((nI k - (1 : Int32)) - a128.1))))) N ((0 : Int32), Mm) = some (nI k, mvD Mm (40 * s + i) (40 * t + j) k) := by
    intro up hup
    have e1 : (40 : Int32) * nI s + nI i = nI (40 * s + i) := by rw [show (40 : Int32) = nI 40 from rfl, pk_mul, nI_add]
    have e2 : (40 : Int32) * nI t + nI j = nI (40 * t + j) := by rw [show (40 : Int32) = nI 40 from rfl, pk_mul, nI_add]
    rcases hup with ⟨rfl, hup⟩ | ⟨rfl, hup⟩
    · refine lp_cnt k (fun q a => a = (nI q, mvD Mm (40 * s + i) (40 * t + j) q)) (fun q a rc hq hI => Or.inr ?_) (fun a rc hI => ?_) N 0 _ (by omega) (by rw [mvD_0]; rfl) (by omega)
      · subst hI
        refine ⟨(nI (q + 1), mvD Mm (40 * s + i) (40 * t + j) (q + 1)), rfl, ?_⟩
        have b1 : inb (nI (40 * s + i + q)) 160 := inb_nI (by omega) (by decide)
        have b2 : inb (nI (40 * t + j + q)) 160 := inb_nI (by omega) (by decide)
        have g1 : (nI (40 * s + i + q)).toNatClampNeg = 40 * s + i + q := nI_clamp (by omega)
        have g2 : (nI (40 * t + j + q)).toNatClampNeg = 40 * t + j + q := nI_clamp (by omega)
        dsimp only
        rw [if_neg (nI_ge hq hk), jn_e, if_pos rfl]
        simp only [e1, e2, nI_add, ck_t b1, ck_t b2, nm_e1, g1, g2, nI_1]
        rw [mvD_s _ _ _ _ hup]
      · subst hI
        dsimp only
        rw [if_pos (nI_le (a := k) (b := k) (Nat.le_refl _) hk)]
    · rw [← mvU_all]
      refine lp_cnt k (fun q a => a = (nI q, mvU Mm (40 * s + i) (40 * t + j) k q)) (fun q a rc hq hI => Or.inr ?_) (fun a rc hI => ?_) N 0 _ (by omega) (by rw [mvU_0]; rfl) (by omega)
      · subst hI
        refine ⟨(nI (q + 1), mvU Mm (40 * s + i) (40 * t + j) k (q + 1)), rfl, ?_⟩
        have e3 : nI k - 1 - nI q = nI (k - 1 - q) := by rw [show nI k - 1 = nI (k - 1) from pk_sub (b := 1) (by omega), pk_sub (by omega)]
        have b1 : inb (nI (40 * s + i + (k - 1 - q))) 160 := inb_nI (by omega) (by decide)
        have b2 : inb (nI (40 * t + j + (k - 1 - q))) 160 := inb_nI (by omega) (by decide)
        have g1 : (nI (40 * s + i + (k - 1 - q))).toNatClampNeg = 40 * s + i + (k - 1 - q) := nI_clamp (by omega)
        have g2 : (nI (40 * t + j + (k - 1 - q))).toNatClampNeg = 40 * t + j + (k - 1 - q) := nI_clamp (by omega)
        dsimp only
        rw [if_neg (nI_ge hq hk), jn_e, if_neg (by decide), e3]
        simp only [e1, e2, nI_add, ck_t b1, ck_t b2, nm_e1, g1, g2, nI_1]
        rw [mvU_s _ _ _ _ _ hq hup]
      · subst hI
        dsimp only
        rw [if_pos (nI_le (a := k) (b := k) (Nat.le_refl _) hk)]
  have e1 : (40 : Int32) * nI s + nI i = nI (40 * s + i) := by rw [show (40 : Int32) = nI 40 from rfl, pk_mul, nI_add]
  have e2 : (40 : Int32) * nI t + nI j = nI (40 * t + j) := by rw [show (40 : Int32) = nI 40 from rfl, pk_mul, nI_add]
  have hfin : RR PR (some (nI k, putJ Mx (sheetC t + 1) (va_cpy (Mx.2 (sheetC s + 1)) (Mx.2 (sheetC t + 1)) i j k))) (some (nI k, mvD Mm (40 * s + i) (40 * t + j) k)) := by
    refine rr_ret ⟨rfl, G, z, ls, Cmp_she hc (fun a ha => ⟨rfl, ?_⟩) (fun a ha => ⟨rfl, ?_⟩) (fun q hq => ?_)⟩
    · funext b
      show (putJ Mx _ _).2 a b = _
      rw [putJ_2, if_neg (by unfold sheetC; omega)]
    · funext b
      show (if _ then _ else _) = _
      rw [if_neg (by omega)]
    · by_cases e : q = t
      · subst e
        refine ⟨q1, Or.inr ⟨q2, m, m1, m2, m3, fun b hb => ?_⟩⟩
        show (putJ Mx _ _).2 _ b = (mvD Mm _ _ _).2 22 _
        rw [putJ_2, if_pos (by unfold sheetC; omega)]
        unfold mvD
        dsimp only
        by_cases hr : j ≤ b ∧ b < j + k
        · rw [pk_cpy_in hr.1 hr.2, if_pos (by omega), show 40 * s + i + (40 * q + b - (40 * q + j)) = 40 * s + (i + (b - j)) by omega]
          have := n4 (i + (b - j)) (by omega)
          rw [show sheetC s + 1 = 41 + 2 * s by unfold sheetC; omega]
          exact this
        · rw [pk_cpy_out (by omega), if_neg (by omega), show sheetC q + 1 = 41 + 2 * q by unfold sheetC; omega]
          exact m4 b hb
      · refine (hS q hq).ag ⟨rfl, ?_⟩ rfl rfl (fun b hb => ?_)
        · funext b
          show (putJ Mx _ _).2 _ b = _
          rw [putJ_2, if_neg (by unfold sheetC; omega)]
        · show (mvD Mm _ _ _).2 22 _ = _
          unfold mvD
          dsimp only
          rw [if_neg (by omega)]
  by_cases cu : 40 * t + j ≤ 40 * s + i
  · rw [jn_e, if_pos (by rw [e1, e2]; exact nI_le cu (by omega))]
    dsimp only
    rw [hm 0 (Or.inl ⟨rfl, cu⟩)]
    exact hfin
  · rw [jn_e, if_neg (by rw [e1, e2]; exact nI_ge (by omega) (by omega))]
    dsimp only
    rw [hm 1 (Or.inr ⟨rfl, by omega⟩)]
    exact hfin
