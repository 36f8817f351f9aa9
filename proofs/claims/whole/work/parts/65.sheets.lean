def segJ (M : Mem) (c o n : Nat) (v : Int64) : Mem := (M.1, fun a b => if a = c ∧ o ≤ b ∧ b < o + n then v else M.2 a b)
def segI (M : Mem) (c o n : Nat) (v : Int32) : Mem := (fun a b => if a = c ∧ o ≤ b ∧ b < o + n then v else M.1 a b, M.2)
theorem segJ_0 (M : Mem) (c o : Nat) (v : Int64) : segJ M c o 0 v = M := by
  refine Prod.ext rfl ?_
  funext a b
  show (if _ then _ else _) = _
  rw [if_neg (by omega)]
theorem segJ_s (M : Mem) (c o n : Nat) (v : Int64) : setJ (segJ M c o n v) c (o + n) v = segJ M c o (n + 1) v := by
  refine Prod.ext rfl ?_
  funext a b
  show (if _ then (if _ then _ else (if _ then _ else _)) else (if _ then _ else _)) = (if _ then _ else _)
  by_cases h1 : a = c <;> by_cases h2 : b = o + n <;> by_cases h3 : o ≤ b ∧ b < o + n
  all_goals first
    | (rw [if_pos h1, if_pos h2, if_pos (by omega)]; done)
    | (rw [if_pos h1, if_neg h2, if_pos (by omega), if_pos (by omega)]; done)
    | (rw [if_pos h1, if_neg h2, if_neg (by omega), if_neg (by omega)]; done)
    | (rw [if_neg h1, if_neg (by omega), if_neg (by omega)]; done)
theorem segI_0 (M : Mem) (c o : Nat) (v : Int32) : segI M c o 0 v = M := by
  refine Prod.ext ?_ rfl
  funext a b
  show (if _ then _ else _) = _
  rw [if_neg (by omega)]
theorem segI_s (M : Mem) (c o n : Nat) (v : Int32) : setI (segI M c o n v) c (o + n) v = segI M c o (n + 1) v := by
  refine Prod.ext ?_ rfl
  funext a b
  show (if _ then (if _ then _ else (if _ then _ else _)) else (if _ then _ else _)) = (if _ then _ else _)
  by_cases h1 : a = c <;> by_cases h2 : b = o + n <;> by_cases h3 : o ≤ b ∧ b < o + n
  all_goals first
    | (rw [if_pos h1, if_pos h2, if_pos (by omega)]; done)
    | (rw [if_pos h1, if_neg h2, if_pos (by omega), if_pos (by omega)]; done)
    | (rw [if_pos h1, if_neg h2, if_neg (by omega), if_neg (by omega)]; done)
    | (rw [if_neg h1, if_neg (by omega), if_neg (by omega)]; done)
theorem fillJ_e {N : Nat} (c n : Nat) (v : Int64) (M : Mem) (hN : 2000 ≤ N) (hn : n ≤ 1024) : f_J7_fill_d0a16 N c n v M = some (segJ M c 0 n v) := by
  unfold f_J7_fill_d0a16
  rw [nm_e1]
  refine lp_cnt n (fun i a => a = (nI i, segJ M c 0 i v)) (fun i a rc hi hI => Or.inr ?_) (fun a rc hI => ?_) N 0 _ (by omega) (by rw [segJ_0]; rfl) (by omega)
  · subst hI
    refine ⟨(nI (i + 1), segJ M c 0 (i + 1) v), rfl, ?_⟩
    show (if nI n ≤ nI i then _ else _) = _
    rw [if_neg (nI_ge hi (by omega)), ck_t (inb_nI hi (by omega)), nm_e1, nm_e1]
    show rc (nI i + 1, setJ _ c (nI i).toNatClampNeg v) = _
    rw [nI_clamp (by omega), nI_1]
    have h := segJ_s M c 0 i v
    rw [Nat.zero_add] at h
    rw [h]
  · subst hI
    show (if nI n ≤ nI n then _ else _) = _
    rw [if_pos (nI_le (a := n) (b := n) (Nat.le_refl _) (by omega))]
theorem fillI_e {N : Nat} (c n : Nat) (v : Int32) (M : Mem) (hN : 2000 ≤ N) (hn : n ≤ 1024) : f_J7_fill_53178 N c n v M = some (segI M c 0 n v) := by
  unfold f_J7_fill_53178
  rw [nm_e1]
  refine lp_cnt n (fun i a => a = (nI i, segI M c 0 i v)) (fun i a rc hi hI => Or.inr ?_) (fun a rc hI => ?_) N 0 _ (by omega) (by rw [segI_0]; rfl) (by omega)
  · subst hI
    refine ⟨(nI (i + 1), segI M c 0 (i + 1) v), rfl, ?_⟩
    show (if nI n ≤ nI i then _ else _) = _
    rw [if_neg (nI_ge hi (by omega)), ck_t (inb_nI hi (by omega)), nm_e1, nm_e1]
    show rc (nI i + 1, setI _ c (nI i).toNatClampNeg v) = _
    rw [nI_clamp (by omega), nI_1]
    have h := segI_s M c 0 i v
    rw [Nat.zero_add] at h
    rw [h]
  · subst hI
    show (if nI n ≤ nI n then _ else _) = _
    rw [if_pos (nI_le (a := n) (b := n) (Nat.le_refl _) (by omega))]
theorem isShX {N : Nat} {x : Int32} {M : Mem} : f_X7_isSheet N x M = some (bI (0 ≤ x ∧ x ≤ 3)) := by
  unfold f_X7_isSheet; rw [within_e, bd_s, ck_t bI_ck]
theorem isShM {N : Nat} {x : Int32} {M : Mem} : f_X8_isSheet N x M = some (bI (0 ≤ x ∧ x ≤ 3)) := by
  unfold f_X8_isSheet; rw [inI_e N x 0 3 M (by decide) (by decide), bd_s, ck_t bI_ck]
theorem missX {N c : Nat} {M : Mem} : f_X5_isMissing N c M = some (bI (M.1 c 0 = -1)) := by
  unfold f_X5_isMissing bI; split <;> rfl
theorem numX {N c : Nat} {x : Int32} {M : Mem} : f_X5_hasNumber N c x M = some (bI (0 ≤ x ∧ x < M.1 c 1)) := by
  unfold f_X5_hasNumber bI
  rw [jn_e]
  have h1 : x < 0 ↔ ¬ 0 ≤ x := by rw [i_lt, i_le]; omega
  have h2 : M.1 c 1 ≤ x ↔ ¬ x < M.1 c 1 := by rw [i_lt, i_le]; omega
  by_cases c1 : 0 ≤ x <;> by_cases c2 : x < M.1 c 1 <;> simp [h1, h2, c1, c2]
/-- only sheets have changed -/
theorem Cmp_she {Mx Mm Mx' Mm' : Mem} {G : Gr} {z : Int32} {ls : Nat → Int64} (h : Cmp G z ls Mx Mm) (hx : ∀ a, ¬ (40 ≤ a ∧ a ≤ 47) → Mx'.1 a = Mx.1 a ∧ Mx'.2 a = Mx.2 a) (hm : ∀ a, ¬ (20 ≤ a ∧ a ≤ 22) → Mm'.1 a = Mm.1 a ∧ Mm'.2 a = Mm.2 a) (ht : She Mx' Mm') : Cmp G z ls Mx' Mm' := by
  obtain ⟨g1, g2, g3, g4, g5, g6, g7, -, g9⟩ := h
  have m0 : ∀ j, Mm'.1 0 j = Mm.1 0 j := fun j => by rw [(hm 0 (by omega)).1]
  exact ⟨g1, g2.ag (fun a h1 h2 => hx a (by omega)), g3.ag (fun j hj => m0 j) (fun a h1 h2 => hm a (by omega)), by rw [m0]; exact g4, g5.ag (fun a h1 h2 => (hx a (by omega)).1), g6.ag (by rw [(hx 0 (by omega)).1]) (m0 43) (fun a h1 h2 => hx a (by omega)) (fun j _ => by rw [(hm 23 (by omega)).1]) (fun j _ => by rw [(hm 24 (by omega)).1]) (fun j _ => by rw [(hm 25 (by omega)).2]), fun h hh => (g7 h hh).ag (hx _ (by omega)) (fun a h1 h2 => by rw [(hm a (by omega)).1, (hm a (by omega)).2]; exact ⟨rfl, rfl⟩), ht, g9.ag (by rw [(hx 31 (by omega)).1]) (hx 32 (by omega)).1 (m0 31) (hm 18 (by omega)).1⟩
theorem ix40 {s : Nat} (hs : s ≤ 3) {i : Nat} (hi : i < 40) : (40 : Int32) * nI s + nI i = nI (40 * s + i) := by
  rw [show (40 : Int32) = nI 40 from rfl, pk_mul, nI_add]
theorem s_36 {N : Nat} (hN : 2000 ≤ N) : St_36 N Rel := by
  intro Mx Mm a0 a1 a2 h
  apply rr_st
  unfold f_X7_sheet f_X8_sheet
  rw [isShX, isShM, bd_s, bd_s, ite_bI, ite_bI]
  obtain ⟨G, z, ls, hc⟩ := id h
  refine rr_ite Iff.rfl (fun hv => ?_) (fun _ => rr_ret ⟨rfl, h⟩)
  obtain ⟨s, hs, rfl⟩ := nI_of_le 3 (by decide) hv
  rw [within_e, inI_e N a1 (-1) 1 Mm (by decide) (by decide), bd_s, bd_s, ite_bI, ite_bI]
  refine rr_ite Iff.rfl (fun hv2 => ?_) (fun _ => rr_ret ⟨rfl, h⟩)
  have hi4 : inb (nI s) 4 := inb_nI (by omega) (by decide)
  have hcl : (nI s).toNatClampNeg = s := nI_clamp (by omega)
  have hz : ∀ (B : Mem), lp (fun (k71 : (Int32 × Mem) → Option (Int32 × Mem)) (a71 : Int32 × Mem) => if (40 : Int32) ≤ a71.1 then (some ((1 : Int32), a71.2)) else (ck (inb (((40 : Int32) * nI s) + a71.1) 160) (nm (setJ a71.2 22 (((40 : Int32) * nI s) + a71.1).toNatClampNeg (0 : Int64)) (fun M7 => nm (a71.1 + (1 : Int32)) (fun v8 => k71 (v8, M7)))))) N ((0 : Int32), B) = some (1, segJ B 22 (40 * s) 40 0) := by
    intro B
    refine lp_cnt 40 (fun i a => a = (nI i, segJ B 22 (40 * s) i 0)) (fun i a rc hi hI => Or.inr ?_) (fun a rc hI => ?_) N 0 _ (by omega) (by rw [segJ_0]; rfl) (by omega)
    · subst hI
      refine ⟨(nI (i + 1), segJ B 22 (40 * s) (i + 1) 0), rfl, ?_⟩
      show (if nI 40 ≤ nI i then _ else _) = _
      rw [if_neg (nI_ge (b := 40) hi (by decide))]
      dsimp only
      rw [ix40 hs hi, ck_t (inb_nI (by omega) (by decide)), nm_e1, nm_e1, nI_clamp (by omega), segJ_s, nI_1]
    · subst hI
      show (if (40 : Int32) ≤ nI 40 then _ else _) = _
      rw [if_pos (by decide)]
  simp only [nm_e1] at hz
  have hS := hc.2.2.2.2.2.2.2.1
  by_cases hm1 : a1 = -1
  · subst hm1
    simp only [jn_e, if_true, ck_t hi4, nm_e1, hcl, hz]
    refine rr_ret ⟨rfl, G, z, ls, Cmp_she hc (fun a ha => ⟨setI_o (by unfold sheetC; omega), rfl⟩) (fun a ha => ⟨?_, ?_⟩) (fun q hq => ?_)⟩
    · show (setI (setI Mm 20 s (-1)) 21 s 0).1 a = _
      rw [setI_o (by omega), setI_o (by omega)]
    · funext b; show (if _ then _ else _) = _; rw [if_neg (by omega)]; rfl
    · by_cases e : q = s
      · subst e
        refine ⟨?_, Or.inl ?_⟩
        · simp [setI_1, sheetC, segJ]
        · simp [setI_1, segJ]
      · refine (hS q hq).ag ⟨setI_o (by unfold sheetC; omega), rfl⟩ (by simp [segJ, setI_1, e]) (by simp [segJ, setI_1, e]) (fun i hi => ?_)
        show (if _ then _ else _) = _
        rw [if_neg (by omega)]; rfl
  · have hsort : a1 = 0 ∨ a1 = 1 := by
      have h1 := (i_le _ _).mp hv2.1
      have h2 := (i_le _ _).mp hv2.2
      have h3 : ¬ a1.toInt = (-1 : Int32).toInt := fun q => hm1 ((i_eq _ _).mpr q)
      have e1 : (-1 : Int32).toInt = -1 := rfl
      have e2 : (1 : Int32).toInt = 1 := rfl
      rw [e1] at h1 h3; rw [e2] at h2
      rcases (show a1.toInt = 0 ∨ a1.toInt = 1 by omega) with q | q
      · exact Or.inl ((i_eq _ _).mpr q)
      · exact Or.inr ((i_eq _ _).mpr q)
    rw [if_neg hm1]
    simp only [jn_e, if_neg hm1]
    refine rr_ite Iff.rfl (fun h40 => ?_) (fun _ => rr_ret ⟨rfl, h⟩)
    refine rr_ite Iff.rfl (fun h0 => ?_) (fun _ => rr_ret ⟨rfl, h⟩)
    obtain ⟨n, hn, rfl⟩ := nI_of_le 40 (by decide) ⟨h0, h40⟩
    unfold f_X5_begin
    simp only [ck_t hi4, hcl, nm_e1, fillJ_e _ _ _ _ hN (show 40 ≤ 1024 by omega), bd_s, hz]
    refine rr_ret ⟨rfl, G, z, ls, Cmp_she hc (fun a ha => ⟨?_, ?_⟩) (fun a ha => ⟨?_, ?_⟩) (fun q hq => ?_)⟩
    · show (setI (setI Mx (sheetC s) 0 a1) (sheetC s) 1 (nI n)).1 a = _
      rw [setI_o (by unfold sheetC; omega), setI_o (by unfold sheetC; omega)]
    · funext b; show (if _ then _ else _) = _; rw [if_neg (by unfold sheetC; omega)]; rfl
    · show (setI (setI Mm 20 s a1) 21 s (nI n)).1 a = _
      rw [setI_o (by omega), setI_o (by omega)]
    · funext b; show (if _ then _ else _) = _; rw [if_neg (by omega)]; rfl
    · by_cases e : q = s
      · subst e
        refine ⟨?_, Or.inr ⟨?_, n, hn, ?_, ?_, fun i hi => ?_⟩⟩
        · simp [segJ, setI_1, sheetC]
        · simp [segJ, setI_1]; exact hsort
        · simp [segJ, setI_1, sheetC]
        · simp [segJ, setI_1]
        · show (if _ then _ else _) = (if _ then _ else _)
          rw [if_pos (by unfold sheetC; omega), if_pos (by omega)]
      · refine (hS q hq).ag ⟨?_, ?_⟩ (by simp [segJ, setI_1, e]) (by simp [segJ, setI_1, e]) (fun i hi => ?_)
        · show (setI (setI Mx (sheetC s) 0 a1) (sheetC s) 1 (nI n)).1 _ = _
          rw [setI_o (by unfold sheetC; omega), setI_o (by unfold sheetC; omega)]
        · funext b; show (if _ then _ else _) = _; rw [if_neg (by unfold sheetC; omega)]; rfl
        · show (if _ then _ else _) = _
          rw [if_neg (by omega)]; rfl
