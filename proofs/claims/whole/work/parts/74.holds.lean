/-! holds -/
theorem isHX {N : Nat} {x : Int32} {M : Mem} : f_X7_isHold N x M = some (bI (0 ≤ x ∧ x ≤ 3)) := by
  unfold f_X7_isHold; rw [within_e, bd_s, ck_t bI_ck]
theorem isHM {N : Nat} {x : Int32} {M : Mem} : f_X8_isHold N x M = some (bI (0 ≤ x ∧ x ≤ 3)) := by
  unfold f_X8_isHold; rw [inI_e N x 0 3 M (by decide) (by decide), bd_s, ck_t bI_ck]
/-- only holds have changed (and the flags of what is too great) -/
theorem Cmp_hol {Mx Mm Mx' Mm' : Mem} {G : Gr} {z : Int32} {ls : Nat → Int64} (h : Cmp G z ls Mx Mm) (hx : ∀ a, ¬ (35 ≤ a ∧ a ≤ 38) → a ≠ 33 → Mx'.1 a = Mx.1 a ∧ Mx'.2 a = Mx.2 a) (hm : ∀ a, a ≠ 0 → ¬ (11 ≤ a ∧ a ≤ 17) → Mm'.1 a = Mm.1 a ∧ Mm'.2 a = Mm.2 a) (h0 : ∀ j, j ≠ 29 → Mm'.1 0 j = Mm.1 0 j) (ht : Hol Mx' Mm') : Cmp G z ls Mx' Mm' := by
  obtain ⟨g1, g2, g3, g4, g5, g6, -, g8, g9⟩ := h
  exact ⟨g1, g2.ag (fun a h1 h2 => hx a (by omega) (by omega)), g3.ag (fun j hj => h0 j (by omega)) (fun a h1 h2 => hm a (by omega) (by omega)), by rw [h0 8 (by omega)]; exact g4, g5.ag (fun a h1 h2 => (hx a (by omega) (by omega)).1), g6.ag (by rw [(hx 0 (by omega) (by omega)).1]) (h0 43 (by omega)) (fun a h1 h2 => hx a (by omega) (by omega)) (fun j _ => by rw [(hm 23 (by omega) (by omega)).1]) (fun j _ => by rw [(hm 24 (by omega) (by omega)).1]) (fun j _ => by rw [(hm 25 (by omega) (by omega)).2]), ht, fun s hs => (g8 s hs).ag ⟨(hx _ (by omega) (by omega)).1, (hx _ (by omega) (by omega)).2⟩ (by rw [(hm 20 (by omega) (by omega)).1]) (by rw [(hm 21 (by omega) (by omega)).1]) (fun i _ => by rw [(hm 22 (by omega) (by omega)).2]), g9.ag (by rw [(hx 31 (by omega) (by omega)).1]) (hx 32 (by omega) (by omega)).1 (h0 31 (by omega)) (hm 18 (by omega) (by omega)).1⟩
theorem HolOk.is1 {Mx Mm : Mem} {h : Nat} (q : HolOk Mx Mm h) (e : Mm.1 11 h = 1) : Mx.2 (35 + h) 1 = Mm.2 15 h ∧ Mx.2 (35 + h) 2 = Mm.2 16 h ∧ 0 < Mm.2 16 h := by
  rcases q.2 with c | ⟨c, c1⟩ | ⟨c, c1⟩ | ⟨c, c1⟩
  · rw [e] at c; exact absurd c (by decide)
  · exact c1
  · rw [e] at c; exact absurd c (by decide)
  · rw [e] at c; exact absurd c (by decide)
theorem HolOk.is2 {Mx Mm : Mem} {h : Nat} (q : HolOk Mx Mm h) (e : Mm.1 11 h = 2) : Mx.1 (35 + h) 3 = Mm.1 12 h ∧ Mx.1 (35 + h) 4 = Mm.1 13 h := by
  rcases q.2 with c | ⟨c, c1⟩ | ⟨c, c1⟩ | ⟨c, c1⟩
  · rw [e] at c; exact absurd c (by decide)
  · rw [e] at c; exact absurd c (by decide)
  · exact c1
  · rw [e] at c; exact absurd c (by decide)
theorem HolOk.is3 {Mx Mm : Mem} {h : Nat} (q : HolOk Mx Mm h) (e : Mm.1 11 h = 3) : Mx.1 (35 + h) 5 = Mm.1 14 h ∧ Mx.2 (35 + h) 6 = Mm.2 17 h := by
  rcases q.2 with c | ⟨c, c1⟩ | ⟨c, c1⟩ | ⟨c, c1⟩
  · rw [e] at c; exact absurd c (by decide)
  · rw [e] at c; exact absurd c (by decide)
  · rw [e] at c; exact absurd c (by decide)
  · exact c1
theorem j_pos {x : Int64} (h : 0 < x) : ¬ x = 0 ∧ 0 ≤ lg_cmp x 1 := by
  have h1 := (j_lt _ _).mp h
  have e0 : (0 : Int64).toInt = 0 := rfl
  have e1 : (1 : Int64).toInt = 1 := rfl
  refine ⟨fun q => ?_, ?_⟩
  · rw [q] at h1; omega
  · rw [lg_ge, j_le]; omega
theorem s_30 {N : Nat} : St_30 N Rel := by
  intro Mx Mm a0 a1 h
  obtain ⟨G, z, ls, hc⟩ := id h
  have hH := hc.2.2.2.2.2.2.1
  suffices q : RR (fun a b => a = b) (f_X7_told N a0 a1 Mx) (f_X8_told N a0 a1 Mm) by
    obtain ⟨a, b, e1, e2, rfl⟩ := q
    exact ⟨a, e1, e2, h⟩
  unfold f_X7_told f_X8_told
  rw [isHX, isHM, bd_s, bd_s, ite_bI, ite_bI]
  refine rr_ite Iff.rfl (fun hv => ?_) (fun _ => rr_ret rfl)
  obtain ⟨k, hk, rfl⟩ := nI_of_le 3 (by decide) hv
  rw [within_e, inI_e N a1 0 6 Mm (by decide) (by decide), bd_s, bd_s, ite_bI, ite_bI]
  refine rr_ite Iff.rfl (fun hw => ?_) (fun _ => rr_ret rfl)
  have i4 : inb (nI k) 4 := inb_nI (by omega) (by decide)
  have ck' : (nI k).toNatClampNeg = k := nI_clamp (by omega)
  have q := hH k (by omega)
  have q1 : Mx.1 (holdC k) 0 = Mm.1 11 k := q.1
  unfold f_X0_thingTold
  simp only [ck_t i4, ck', q1, jn_e]
  refine rr_ite Iff.rfl (fun _ => rr_ret rfl) (fun q0 => ?_)
  by_cases c3 : (3 : Int32) ≤ a1
  · rw [if_pos c3, if_pos c3]
    by_cases c5 : (5 : Int32) ≤ a1
    · rw [if_pos c5, if_pos c5, bd_s]
      refine rr_ite Iff.rfl (fun e => ?_) (fun _ => rr_ret rfl)
      obtain ⟨e1, e2⟩ := q.is3 e
      refine rr_ite Iff.rfl (fun e => absurd (e ▸ c3) (by decide)) (fun _ => ?_)
      refine rr_ite Iff.rfl (fun e => absurd (e ▸ c3) (by decide)) (fun _ => ?_)
      refine rr_ite Iff.rfl (fun e => absurd (e ▸ c3) (by decide)) (fun _ => ?_)
      refine rr_ite Iff.rfl (fun e => absurd (e ▸ c5) (by decide)) (fun _ => ?_)
      refine rr_ite Iff.rfl (fun e => absurd (e ▸ c5) (by decide)) (fun _ => ?_)
      exact rr_ite Iff.rfl (fun _ => rr_ret (congrArg Int32.toInt64 e1)) (fun _ => rr_ret e2)
    · rw [if_neg c5, if_neg c5, bd_s]
      refine rr_ite Iff.rfl (fun e => ?_) (fun _ => rr_ret rfl)
      obtain ⟨e1, e2⟩ := q.is2 e
      refine rr_ite Iff.rfl (fun e => absurd (e ▸ c3) (by decide)) (fun _ => ?_)
      refine rr_ite Iff.rfl (fun e => absurd (e ▸ c3) (by decide)) (fun _ => ?_)
      refine rr_ite Iff.rfl (fun e => absurd (e ▸ c3) (by decide)) (fun _ => ?_)
      refine rr_ite Iff.rfl (fun _ => rr_ret (congrArg Int32.toInt64 e1)) (fun n3 => ?_)
      refine rr_ite Iff.rfl (fun _ => rr_ret (congrArg Int32.toInt64 e2)) (fun n4 => ?_)
      exfalso
      have h1 := (i_le _ _).mp c3
      have h2 : ¬ (5 : Int32).toInt ≤ a1.toInt := fun q => c5 ((i_le _ _).mpr q)
      have h3 : a1.toInt ≠ (3 : Int32).toInt := fun q => n3 ((i_eq _ _).mpr q)
      have h4 : a1.toInt ≠ (4 : Int32).toInt := fun q => n4 ((i_eq _ _).mpr q)
      have v3 : (3 : Int32).toInt = 3 := rfl
      have v4 : (4 : Int32).toInt = 4 := rfl
      have v5 : (5 : Int32).toInt = 5 := rfl
      omega
  · rw [if_neg c3, if_neg c3, bd_s]
    refine rr_ite Iff.rfl (fun e => ?_) (fun _ => rr_ret rfl)
    obtain ⟨e1, e2, e3⟩ := q.is1 e
    refine rr_ite Iff.rfl (fun _ => rr_ret e1) (fun n0 => ?_)
    refine rr_ite Iff.rfl (fun _ => rr_ret e2) (fun n1 => ?_)
    refine rr_ite Iff.rfl (fun _ => ?_) (fun n2 => ?_)
    · have e1 : Mx.2 (holdC k) 1 = Mm.2 15 k := e1
      have e2 : Mx.2 (holdC k) 2 = Mm.2 16 k := e2
      rw [e1, e2, if_pos (j_pos e3).2, ck_t (j_pos e3).1]
      exact rr_ret rfl
    · exfalso
      have h1 := (i_le _ _).mp hw.1
      have h2 : ¬ (3 : Int32).toInt ≤ a1.toInt := fun q => c3 ((i_le _ _).mpr q)
      have h3 : a1.toInt ≠ (0 : Int32).toInt := fun q => n0 ((i_eq _ _).mpr q)
      have h4 : a1.toInt ≠ (1 : Int32).toInt := fun q => n1 ((i_eq _ _).mpr q)
      have h5 : a1.toInt ≠ (2 : Int32).toInt := fun q => n2 ((i_eq _ _).mpr q)
      have v3 : (3 : Int32).toInt = 3 := rfl
      have v0 : (0 : Int32).toInt = 0 := rfl
      have v1 : (1 : Int32).toInt = 1 := rfl
      have v2 : (2 : Int32).toInt = 2 := rfl
      omega
/-- a sum of longs that wraps -/
def sumJ (f : Nat → Int64) : Nat → Int64
  | 0 => 0
  | n + 1 => sumJ f n + f n
theorem setJ_twice {M : Mem} {k j : Nat} {v w : Int64} : setJ (setJ M k j v) k j w = setJ M k j w := by
  refine Prod.ext rfl ?_
  funext a b
  show (if _ then (if _ then _ else (if _ then (if _ then _ else _) else _)) else (if _ then _ else _)) = (if _ then (if _ then _ else _) else _)
  by_cases h1 : a = k
  · by_cases h2 : b = j
    · rw [if_pos h1, if_pos h2, if_pos h1, if_pos h2]
    · rw [if_pos h1, if_neg h2, if_pos h1, if_neg h2, if_pos h1, if_neg h2]
  · rw [if_neg h1, if_neg h1, if_neg h1]
theorem rowX {N c0 c1 n : Nat} {M : Mem} (hN : 2000 ≤ N) (hc : c0 ≠ c1 ∧ c0 ≠ c1 + 1) (hn : M.1 c1 1 = nI n) (h40 : n ≤ 40) : f_X0_takeRow N c0 c1 M = some (setJ (setI (setI M c0 0 3) c0 5 (nI n)) c0 6 (sumJ (M.2 (c1 + 1)) n)) := by
  unfold f_X0_takeRow
  rw [nm_e1, nm_e1, nm_e1, setI_o (Ne.symm hc.1), hn]
  generalize hA : setI (setI M c0 0 3) c0 5 (nI n) = A
  have a1 : A.1 c1 1 = nI n := by rw [← hA, setI_o (Ne.symm hc.1), setI_o (Ne.symm hc.1), hn]
  have a2 : A.2 = M.2 := by rw [← hA]; rfl
  refine lp_cnt n (fun i a => a = (nI i, setJ A c0 6 (sumJ (M.2 (c1 + 1)) i))) (fun i a rc hi hI => Or.inr ?_) (fun a rc hI => ?_) N 0 _ (by omega) rfl (by omega)
  · subst hI
    refine ⟨(nI (i + 1), setJ A c0 6 (sumJ (M.2 (c1 + 1)) (i + 1))), rfl, ?_⟩
    dsimp only
    rw [setJ_1, a1, if_neg (nI_ge hi (by omega)), ck_t (inb_nI (by omega) (by decide)), nm_e1, nm_e1, nI_1, nI_clamp (by omega), setJ_twice]
    have e1 : (setJ A c0 6 (sumJ (M.2 (c1 + 1)) i)).2 c0 6 = sumJ (M.2 (c1 + 1)) i := by simp [setJ_2]
    have e2 : (setJ A c0 6 (sumJ (M.2 (c1 + 1)) i)).2 (c1 + 1) i = M.2 (c1 + 1) i := by rw [setJ_o (Ne.symm hc.2), a2]
    rw [e1, e2]; rfl
  · subst hI
    dsimp only
    rw [setJ_1, a1, if_pos (nI_le (a := n) (b := n) (Nat.le_refl _) (by omega))]
theorem sumJ_cg {f g : Nat → Int64} : ∀ n, (∀ i, i < n → f i = g i) → sumJ f n = sumJ g n
  | 0, _ => rfl
  | n + 1, h => by show sumJ f n + f n = sumJ g n + g n; rw [sumJ_cg n (fun i hi => h i (by omega)), h n (by omega)]
theorem s_27 {N : Nat} (hN : 2000 ≤ N) : St_27 N Rel := by
  intro Mx Mm a0 a1 a2 h
  apply rr_st
  obtain ⟨G, z, ls, hc⟩ := id h
  obtain ⟨hG, hX, hM, hw8, -⟩ := id hc
  have hH := hc.2.2.2.2.2.2.1
  have hS := hc.2.2.2.2.2.2.2.1
  unfold f_X7_hold f_X8_hold
  rw [isHX, isHM, bd_s, bd_s, ite_bI, ite_bI]
  refine rr_ite Iff.rfl (fun hv => ?_) (fun _ => rr_ret ⟨rfl, h⟩)
  obtain ⟨k, hk, rfl⟩ := nI_of_le 3 (by decide) hv
  rw [within_e, inI_e N a1 0 2 Mm (by decide) (by decide), bd_s, bd_s, ite_bI, ite_bI]
  refine rr_ite Iff.rfl (fun hw => ?_) (fun _ => rr_ret ⟨rfl, h⟩)
  obtain ⟨w, hw2, rfl⟩ := nI_of_le 2 (by decide) hw
  have i4 : inb (nI k) 4 := inb_nI (by omega) (by decide)
  have ck' : (nI k).toNatClampNeg = k := nI_clamp (by omega)
  have frX : ∀ (A : Mem), (∀ a, a ≠ 35 + k → A.1 a = Mx.1 a ∧ A.2 a = Mx.2 a) → ∀ (B : Mem), (∀ a, ¬ (11 ≤ a ∧ a ≤ 17) → B.1 a = Mm.1 a ∧ B.2 a = Mm.2 a) → (∀ a q, q ≠ k → B.1 a q = Mm.1 a q ∧ B.2 a q = Mm.2 a q ∨ ¬ (11 ≤ a ∧ a ≤ 17)) → HolOk A B k → Rel A B := by
    intro A hA B hB hB2 hk'
    refine ⟨G, z, ls, Cmp_hol hc (fun a h1 h2 => hA a (by omega)) (fun a h1 h2 => hB a h2) (fun j hj => by rw [(hB 0 (by omega)).1]) (fun q hq => ?_)⟩
    by_cases e : q = k
    · rw [e]; exact hk'
    · exact (hH q hq).ag (hA _ (by omega)) (fun a h1 h2 => by rcases hB2 a q e with r | r; exact r; omega)
  rcases (show w = 0 ∨ w = 1 ∨ w = 2 by omega) with rfl | rfl | rfl
  · -- a line
    have e2 : ¬ nI 0 = (2 : Int32) := by decide
    have e1 : ¬ nI 0 = (1 : Int32) := by decide
    have e0 : nI 0 = (0 : Int32) := rfl
    simp only [jn_e, if_neg e2, if_neg e1, if_pos e0]
    rw [lnX, lnM hM.2.1 hG.2.1, bd_s, bd_s, ite_bI, ite_bI, hX.2.1]
    refine rr_ite Iff.rfl (fun hl => ?_) (fun _ => rr_ret ⟨rfl, h⟩)
    obtain ⟨l, hll, rfl⟩ := nI_of_lt (by have := hG.2.1; omega) hl
    clear hl
    have hl := hll
    have hn := hG.2.1
    have l10 : inb (nI l) 10 := inb_nI (by omega) (by decide)
    have cl : (nI l).toNatClampNeg = l := nI_clamp (by omega)
    have g12 : ∀ v w : Int32, f_X8_gap N (nI l) (setI (setI Mm 11 k v) 12 k w) = some (nI (gG G l)) := fun v w => gapM (M := setI (setI Mm 11 k v) 12 k w) (z := z) (ls := ls) hG (hM.ag (M' := setI (setI Mm 11 k v) 12 k w) (fun j hj => by rw [setI_o (by omega), setI_o (by omega)]) (fun a h1 h2 => ⟨by rw [setI_o (by omega), setI_o (by omega)], rfl⟩)) (by rw [setI_o (by omega), setI_o (by omega)]; exact hw8) hl
    unfold f_X0_takeLine
    simp only [ck_t i4, ck_t l10, ck', cl, gapX hG hX hl, g12, bd_s, nm_e1]
    obtain ⟨x1, -⟩ := hX.2.2.2.1 l hl
    obtain ⟨m1, -⟩ := hM.2.2.2.1 l hl
    have x1 : Mx.1 2 l = nI (gK G l) := x1
    rw [show (setI Mm 11 k ((2 : Int32) + nI 0)).1 1 l = nI (gK G l) by rw [setI_o (by omega)]; exact m1, x1]
    refine rr_ret ⟨rfl, frX _ ?_ _ ?_ ?_ ?_⟩
    · exact fun a ha => ⟨by show (setI _ (holdC k) _ _).1 a = _; rw [setI_o (by unfold holdC; omega), setI_o (by unfold holdC; omega), setI_o (by unfold holdC; omega)], rfl⟩
    · exact fun a ha => ⟨by show (setI _ _ _ _).1 a = _; rw [setI_o (by omega), setI_o (by omega), setI_o (by omega)], rfl⟩
    · exact fun a q hq => Or.inl ⟨by simp [setI_1, hq], rfl⟩
    refine ⟨?_, Or.inr (Or.inr (Or.inl ⟨?_, ?_, ?_⟩))⟩
    · simp [setI_1, holdC, e0]
    · simp [setI_1, e0]
    · simp [setI_1, holdC]
    · simp [setI_1, holdC]
  · -- a row
    have e2 : ¬ nI 1 = (2 : Int32) := by decide
    have e1 : nI 1 = (1 : Int32) := rfl
    have e0 : ¬ nI 1 = (0 : Int32) := by decide
    simp only [jn_e, if_neg e2, if_pos e1, if_neg e0]
    rw [isShX, isShM, bd_s, bd_s, ite_bI, ite_bI]
    refine rr_ite Iff.rfl (fun hs => ?_) (fun _ => rr_ret ⟨rfl, h⟩)
    obtain ⟨s, hs3, rfl⟩ := nI_of_le 3 (by decide) hs
    have s4 : inb (nI s) 4 := inb_nI (by omega) (by decide)
    have cs : (nI s).toNatClampNeg = s := nI_clamp (by omega)
    obtain ⟨p1, p2⟩ := hS s (by omega)
    have p1 : Mx.1 (sheetC s) 0 = Mm.1 20 s := p1
    simp only [ck_t s4, cs, ck_t i4, ck', missX, bd_s, ite_bI, p1]
    refine rr_ite Iff.rfl (fun _ => rr_ret ⟨rfl, h⟩) (fun p3 => ?_)
    rcases p2 with p2 | ⟨p2, n, n1, n2, n3, n4⟩
    · exact absurd p2 p3
    have n2 : Mx.1 (sheetC s) 1 = nI n := n2
    rw [rowX hN ⟨by unfold holdC sheetC; omega, by unfold holdC sheetC; omega⟩ n2 n1, bd_s, nm_e1, nm_e1, nm_e1]
    have t3 : (2 : Int32) + nI 1 = 3 := rfl
    rw [t3]
    generalize hB0 : setI Mm 11 k (3 : Int32) = B0
    have b0 : B0.1 21 s = nI n := by rw [← hB0, setI_o (by omega), n3]
    have b0' : B0.2 = Mm.2 := by rw [← hB0]; rfl
    rw [b0]
    have hm : lp (fun (k136 : (Int32 × Mem) → Option (Int32 × Mem)) (a136 : Int32 × Mem) => if (a136.2.1 21 s) ≤ a136.1 then (some ((1 : Int32), a136.2)) else (ck (inb (((40 : Int32) * nI s) + a136.1) 160) (nm (setJ a136.2 17 k ((a136.2.2 17 k) + (a136.2.2 22 (((40 : Int32) * nI s) + a136.1).toNatClampNeg))) (fun M8 => nm (a136.1 + (1 : Int32)) (fun v9 => k136 (v9, M8)))))) N ((0 : Int32), setJ (setI B0 14 k (nI n)) 17 k 0) = some (1, setJ (setI B0 14 k (nI n)) 17 k (sumJ (fun i => Mm.2 22 (40 * s + i)) n)) := by
      refine lp_cnt n (fun i a => a = (nI i, setJ (setI B0 14 k (nI n)) 17 k (sumJ (fun i => Mm.2 22 (40 * s + i)) i))) (fun i a rc hi hI => Or.inr ?_) (fun a rc hI => ?_) N 0 _ (by omega) rfl (by omega)
      · subst hI
        refine ⟨(nI (i + 1), setJ (setI B0 14 k (nI n)) 17 k (sumJ (fun i => Mm.2 22 (40 * s + i)) (i + 1))), rfl, ?_⟩
        have c1 : (setI B0 14 k (nI n)).1 21 s = nI n := by rw [setI_o (by omega), b0]
        dsimp only
        rw [setJ_1, c1, if_neg (nI_ge hi (by omega)), ix40 hs3 (by omega), ck_t (inb_nI (by omega) (by decide)), nm_e1, nm_e1, nI_1, nI_clamp (by omega), setJ_twice]
        have f1 : (setJ (setI B0 14 k (nI n)) 17 k (sumJ (fun i => Mm.2 22 (40 * s + i)) i)).2 17 k = sumJ (fun i => Mm.2 22 (40 * s + i)) i := by simp [setJ_2]
        have f2 : (setJ (setI B0 14 k (nI n)) 17 k (sumJ (fun i => Mm.2 22 (40 * s + i)) i)).2 22 (40 * s + i) = Mm.2 22 (40 * s + i) := by rw [setJ_o (by omega), setI_2, b0']
        rw [f1, f2]; rfl
      · subst hI
        have c1 : (setI B0 14 k (nI n)).1 21 s = nI n := by rw [setI_o (by omega), b0]
        dsimp only
        rw [setJ_1, c1, if_pos (nI_le (a := n) (b := n) (Nat.le_refl _) (by omega))]
    simp only [nm_e1] at hm
    simp only [nm_e1, hm]
    subst hB0
    refine rr_ret ⟨rfl, frX _ ?_ _ ?_ ?_ ?_⟩
    · exact fun a ha => ⟨by show (setI _ (holdC k) _ _).1 a = _; rw [setI_o (by unfold holdC; omega), setI_o (by unfold holdC; omega)], by show (setJ _ (holdC k) _ _).2 a = _; rw [setJ_o (by unfold holdC; omega)]; rfl⟩
    · exact fun a ha => ⟨by show (setI _ _ _ _).1 a = _; rw [setI_o (by omega), setI_o (by omega)], by show (setJ _ _ _ _).2 a = _; rw [setJ_o (by omega)]; rfl⟩
    · exact fun a q hq => Or.inl ⟨by simp [setJ_1, setI_1, hq], by simp [setJ_2, hq, setI_2]⟩
    refine ⟨?_, Or.inr (Or.inr (Or.inr ⟨?_, ?_, ?_⟩))⟩
    · simp [setJ_1, setI_1, holdC]
    · simp [setJ_1, setI_1]
    · simp [setJ_1, setI_1, holdC]
    · simp [setJ_2, holdC]
      rw [show sheetC s + 1 = 41 + 2 * s by unfold sheetC; omega]
      exact sumJ_cg n n4
  · -- nothing
    have e2 : nI 2 = (2 : Int32) := rfl
    have e1 : ¬ nI 2 = (1 : Int32) := by decide
    have e0 : ¬ nI 2 = (0 : Int32) := by decide
    simp only [jn_e, if_pos e2, if_neg e1, if_neg e0, ck_t i4, nm_e1, ck']
    refine rr_ret ⟨rfl, frX _ ?_ _ ?_ ?_ ?_⟩
    · exact fun a ha => ⟨by show (setI _ (holdC k) _ _).1 a = _; rw [setI_o (by unfold holdC; omega)], rfl⟩
    · exact fun a ha => ⟨by show (setI _ _ _ _).1 a = _; rw [setI_o (by omega)], rfl⟩
    · exact fun a q hq => Or.inl ⟨by simp [setI_1, hq], rfl⟩
    refine ⟨?_, Or.inl ?_⟩
    · simp [setI_1, holdC]
    · simp [setI_1]
