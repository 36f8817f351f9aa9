theorem lt_pred {n : Nat} (h : n < 2 ^ 30) (x : Int32) : x ≤ nI n - 1 ↔ x < nI n := by
  have e : (nI n - 1).toInt = (n : Int) - 1 := pk_sub_toInt (b := 1) h (by decide)
  rw [i_le, i_lt, e, nI_toInt (by omega)]
  omega
theorem nI_of_lt {x : Int32} {n : Nat} (hn : n < 2 ^ 31) (h : 0 ≤ x ∧ x < nI n) : ∃ j, j < n ∧ x = nI j := by
  obtain ⟨j, hj, rfl⟩ := nI_of (x := x) (by rw [i_lt]; have := (i_le _ _).mp h.1; omega)
  exact ⟨j, (nI_ltI hj hn).mp h.2, rfl⟩
/-- what is wrong with a place of a sheet, on both sides -/
theorem wrongAt_miss {N s : Nat} (hs : s ≤ 3) {i : Int32} {M : Mem} (h : M.1 20 s = -1) : f_X8_wrongAt N (nI s) i M = some (-11) := by
  unfold f_X8_wrongAt
  have hi4 : inb (nI s) 4 := inb_nI (by omega) (by decide)
  have hcl : (nI s).toNatClampNeg = s := nI_clamp (by omega)
  rw [isShM, bd_s, ite_bI, if_pos ⟨nI_pos' (by omega), nI_le (b := 3) hs (by decide)⟩, ck_t hi4]
  simp only [hcl, h, if_true]
theorem wrongAt_in {N s n : Nat} (hs : s ≤ 3) {i : Int32} {M : Mem} (h : M.1 20 s ≠ -1) (hn : M.1 21 s = nI n) (hn4 : n ≤ 40) : f_X8_wrongAt N (nI s) i M = some (if 0 ≤ i ∧ i < nI n then 0 else -12) := by
  unfold f_X8_wrongAt
  have hi4 : inb (nI s) 4 := inb_nI (by omega) (by decide)
  have hcl : (nI s).toNatClampNeg = s := nI_clamp (by omega)
  rw [isShM, bd_s, ite_bI, if_pos ⟨nI_pos' (by omega), nI_le (b := 3) hs (by decide)⟩, ck_t hi4]
  simp only [hcl, if_neg h, ck_t hi4, hn]
  rw [inI_e N i 0 (nI n - 1) M (by decide) (by rw [w_toInt]), bd_s, ite_bI]
  by_cases c : 0 ≤ i ∧ i < nI n
  · rw [if_pos c, if_pos ⟨c.1, (lt_pred (by omega) i).mpr c.2⟩]
  · rw [if_neg c, if_neg (fun q => c ⟨q.1, (lt_pred (by omega) i).mp q.2⟩)]
theorem not_m1 {x : Int32} (h : x = 0 ∨ x = 1) : x ≠ -1 := by rcases h with rfl | rfl <;> decide
theorem s_37 {N : Nat} : St_37 N Rel := by
  intro Mx Mm a0 a1 a2 h
  apply rr_st
  obtain ⟨G, z, ls, hc⟩ := id h
  have hS := hc.2.2.2.2.2.2.2.1
  by_cases hv : 0 ≤ a0 ∧ a0 ≤ 3
  · obtain ⟨s, hs, rfl⟩ := nI_of_le 3 (by decide) hv
    have hi4 : inb (nI s) 4 := inb_nI (by omega) (by decide)
    have hcl : (nI s).toNatClampNeg = s := nI_clamp (by omega)
    obtain ⟨q1, q2⟩ := hS s (by omega)
    unfold f_X7_write f_X8_write
    rw [isShX, bd_s, ite_bI, if_pos hv, ck_t hi4, missX, bd_s, ite_bI]
    simp only [hcl]
    have e1 : Mx.1 (sheetC s) 0 = Mm.1 20 s := q1
    rw [e1]
    rcases q2 with q2 | ⟨q2, n, n1, n2, n3, n4⟩
    · rw [if_pos q2, wrongAt_miss hs q2, bd_s]
      exact rr_ret ⟨rfl, h⟩
    · rw [if_neg (not_m1 q2), wrongAt_in hs (not_m1 q2) n3 n1, bd_s, numX, bd_s, ite_bI]
      have e2 : Mx.1 (sheetC s) 1 = nI n := n2
      rw [e2]
      by_cases c : 0 ≤ a1 ∧ a1 < nI n
      · obtain ⟨i, hi, rfl⟩ := nI_of_lt (by omega) c
        rw [if_pos c, if_pos c, if_pos rfl, ck_t hi4]
        have hci : (nI i).toNatClampNeg = i := nI_clamp (by omega)
        simp only [jn_e, ix40 hs (show i < 40 by omega), ck_t (inb_nI (show i < 40 by omega) (by decide)), ck_t (inb_nI (show 40 * s + i < 160 by omega) (by decide)), nm_e1, nI_clamp (show 40 * s + i < 2 ^ 31 by omega), hci]
        have fin : RR PR (some ((1 : Int32), setJ Mx (sheetC s + 1) i a2)) (some ((1 : Int32), setJ Mm 22 (40 * s + i) a2)) := by
          refine rr_ret ⟨rfl, G, z, ls, Cmp_she hc (fun a ha => ⟨rfl, setJ_o (by unfold sheetC; omega)⟩) (fun a ha => ⟨rfl, setJ_o (by omega)⟩) (fun q hq => ?_)⟩
          by_cases e : q = s
          · subst e
            refine ⟨q1, Or.inr ⟨q2, n, n1, n2, n3, fun j hj => ?_⟩⟩
            show (setJ Mx (sheetC q + 1) i a2).2 _ _ = (setJ Mm 22 (40 * q + i) a2).2 _ _
            rw [setJ_2, setJ_2, if_pos (by unfold sheetC; omega), if_pos rfl]
            by_cases ej : j = i
            · rw [if_pos ej, if_pos (by omega)]
            · rw [if_neg ej, if_neg (by omega)]; exact n4 j hj
          · refine (hS q hq).ag ⟨rfl, setJ_o (by unfold sheetC; omega)⟩ rfl rfl (fun j hj => ?_)
            show (setJ Mm 22 (40 * s + i) a2).2 _ _ = _
            rw [setJ_2, if_pos rfl, if_neg (by omega)]
        refine rr_ite Iff.rfl (fun _ => rr_ite ?_ (fun _ => fin) (fun _ => rr_ret ⟨rfl, h⟩)) (fun _ => fin)
        rw [lg_eq, lg_eq]; exact ⟨Eq.symm, Eq.symm⟩
      · rw [if_neg c, if_neg c, if_neg (by decide)]
        exact rr_ret ⟨rfl, h⟩
  · unfold f_X7_write f_X8_write f_X8_wrongAt
    rw [isShX, isShM, bd_s, bd_s, ite_bI, ite_bI, if_neg hv, if_neg hv, bd_s, if_neg (by decide)]
    exact rr_ret ⟨rfl, h⟩
theorem s_38 {N : Nat} : St_38 N Rel := by
  intro Mx Mm a0 a1 h
  obtain ⟨G, z, ls, hc⟩ := id h
  have hS := hc.2.2.2.2.2.2.2.1
  by_cases hv : 0 ≤ a0 ∧ a0 ≤ 3
  · obtain ⟨s, hs, rfl⟩ := nI_of_le 3 (by decide) hv
    have hi4 : inb (nI s) 4 := inb_nI (by omega) (by decide)
    have hcl : (nI s).toNatClampNeg = s := nI_clamp (by omega)
    obtain ⟨q1, q2⟩ := hS s (by omega)
    unfold f_X7_item f_X8_item_
    rw [isShX, bd_s, ite_bI, if_pos hv, ck_t hi4, missX, bd_s, ite_bI]
    simp only [hcl]
    have e1 : Mx.1 (sheetC s) 0 = Mm.1 20 s := q1
    rw [e1]
    rcases q2 with q2 | ⟨q2, n, n1, n2, n3, n4⟩
    · rw [if_pos q2, wrongAt_miss hs q2, bd_s, if_neg (by decide)]
      exact ⟨_, rfl, congrArg some (by decide), h⟩
    · rw [if_neg (not_m1 q2), wrongAt_in hs (not_m1 q2) n3 n1, bd_s, ck_t hi4, numX, bd_s, ite_bI]
      have e2 : Mx.1 (sheetC s) 1 = nI n := n2
      rw [e2]
      by_cases c : 0 ≤ a1 ∧ a1 < nI n
      · obtain ⟨i, hi, rfl⟩ := nI_of_lt (by omega) c
        rw [if_pos c, if_pos c, if_pos rfl, ck_t hi4, ck_t (inb_nI (show i < 40 by omega) (by decide)), ix40 hs (show i < 40 by omega), ck_t (inb_nI (show 40 * s + i < 160 by omega) (by decide)), nI_clamp (show 40 * s + i < 2 ^ 31 by omega), nI_clamp (show i < 2 ^ 31 by omega)]
        have e3 : sheetC s + 1 = 41 + 2 * s := by unfold sheetC; omega
        rw [e3]
        exact ⟨_, rfl, congrArg some (n4 i hi).symm, h⟩
      · rw [if_neg c, if_neg c, if_neg (by decide)]
        exact ⟨_, rfl, congrArg some (by decide), h⟩
  · unfold f_X7_item f_X8_item_ f_X8_wrongAt
    rw [isShX, isShM, bd_s, bd_s, ite_bI, ite_bI, if_neg hv, if_neg hv, bd_s, if_neg (by decide)]
    exact ⟨_, rfl, congrArg some (by decide), h⟩
