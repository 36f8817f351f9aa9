/-! the net: gaps, points, lists -/
theorem gG_in {G : Gr} (h : GrOk G) {l : Nat} (hl : l < gN G) : 1 ≤ gG G l ∧ gG G l ≤ 5 := by
  obtain ⟨h1, h2, h3, h4, h5⟩ := h.2.2.1 l hl
  have hp := h.1
  show 1 ≤ gapN _ _ _ _ ∧ gapN _ _ _ _ ≤ 5
  unfold gapN
  repeat' split
  all_goals omega
theorem ptX {N c : Nat} {x : Int32} {M : Mem} : f_X1_hasPoint N c x M = some (bI (0 ≤ x ∧ x < M.1 c 0)) := by
  unfold f_X1_hasPoint bI
  rw [jn_e]
  have h1 : x < 0 ↔ ¬ 0 ≤ x := by rw [i_lt, i_le]; omega
  have h2 : M.1 c 0 ≤ x ↔ ¬ x < M.1 c 0 := by rw [i_lt, i_le]; omega
  by_cases c1 : 0 ≤ x <;> by_cases c2 : x < M.1 c 0 <;> simp [h1, h2, c1, c2]
theorem lnX {N c : Nat} {x : Int32} {M : Mem} : f_X1_hasLine N c x M = some (bI (0 ≤ x ∧ x < M.1 c 1)) := by
  unfold f_X1_hasLine bI
  rw [jn_e]
  have h1 : x < 0 ↔ ¬ 0 ≤ x := by rw [i_lt, i_le]; omega
  have h2 : M.1 c 1 ≤ x ↔ ¬ x < M.1 c 1 := by rw [i_lt, i_le]; omega
  by_cases c1 : 0 ≤ x <;> by_cases c2 : x < M.1 c 1 <;> simp [h1, h2, c1, c2]
theorem ptM {N n : Nat} {x : Int32} {M : Mem} (h : M.1 0 0 = nI n) (hn : n ≤ 6) : f_X8_isPoint N x M = some (bI (0 ≤ x ∧ x < nI n)) := by
  unfold f_X8_isPoint
  rw [h, inI_e N x 0 (nI n - 1) M (by decide) (by rw [w_toInt]), bd_s, ck_t bI_ck]
  exact congrArg some (bI_cg (by rw [lt_pred (by omega)]))
theorem lnM {N n : Nat} {x : Int32} {M : Mem} (h : M.1 0 1 = nI n) (hn : n ≤ 10) : f_X8_isLine N x M = some (bI (0 ≤ x ∧ x < nI n)) := by
  unfold f_X8_isLine
  rw [h, inI_e N x 0 (nI n - 1) M (by decide) (by rw [w_toInt]), bd_s, ck_t bI_ck]
  exact congrArg some (bI_cg (by rw [lt_pred (by omega)]))
theorem maxI {N a b : Nat} {M : Mem} (ha : a < 2 ^ 31) (hb : b < 2 ^ 31) : f_J9_max_7cf53 N (nI a) (nI b) M = some (nI (if a < b then b else a)) := by
  unfold f_J9_max_7cf53
  by_cases h : a < b
  · rw [if_pos (nI_lt h hb), if_pos h]
  · rw [if_neg (nI_nlt (by omega) ha), if_neg h]
theorem minI {N a b : Nat} {M : Mem} (ha : a < 2 ^ 31) (hb : b < 2 ^ 31) : f_J9_min_7cf53 N (nI a) (nI b) M = some (nI (if a ≤ b then a else b)) := by
  unfold f_J9_min_7cf53
  by_cases h : a ≤ b
  · rw [if_neg (nI_nlt h hb), if_pos h]
  · rw [if_pos (nI_lt (by omega) ha), if_neg h]
theorem even_e {a : Nat} (h : a < 2 ^ 31) : (nI a - nI a / (2 : Int32) * (2 : Int32)) = nI (a % 2) := pk_rem (d := 2) h (by decide) (by decide)
theorem nI_ne {a b : Nat} (ha : a < 2 ^ 31) (hb : b < 2 ^ 31) (h : a ≠ b) : ¬ nI a = nI b := fun q => h ((nI_eq ha hb).mp q)
theorem gapBy_e {N k f a b : Nat} {M : Mem} (hk : k < 5) (hf : 1 ≤ f ∧ f ≤ 3) (hab : a < b) (hb : b < 6) : f_X8_gapBy N (nI k) (nI f) (nI a) (nI b) M = some (nI (gapN k f a b)) := by
  unfold f_X8_gapBy gapN
  rcases (show k = 0 ∨ k = 1 ∨ k = 2 ∨ k = 3 ∨ k = 4 by omega) with rfl | rfl | rfl | rfl | rfl
  · rw [if_neg (by decide), if_neg (by decide), if_neg (by decide), if_neg (by decide)]; rfl
  · rw [if_pos (by decide), nI_1]; rfl
  · rw [if_neg (by decide), if_pos (by decide)]
    show _ = some (nI (if f ≤ 2 then 1 else f - 1))
    rcases (show f = 1 ∨ f = 2 ∨ f = 3 by omega) with rfl | rfl | rfl <;> decide
  · rw [if_neg (by decide), if_neg (by decide), if_pos (by decide), pk_sub (by omega)]; rfl
  · rw [if_neg (by decide), if_neg (by decide), if_neg (by decide), if_pos (by decide), ck_t (by decide), nI_add, even_e (by omega)]
    show (if nI ((a + b) % 2) = nI 0 then _ else _) = _
    by_cases c : (a + b) % 2 = 0
    · rw [if_pos (by rw [c])]; simp [c]; rfl
    · rw [if_neg (nI_ne (by omega) (by decide) c)]; simp [c]
theorem gapM {N : Nat} {G : Gr} {z : Int32} {ls : Nat → Int64} {M : Mem} (hG : GrOk G) (h : NetM M G z ls) (hw : M.1 0 8 = -1) {l : Nat} (hl : l < gN G) : f_X8_gap N (nI l) M = some (nI (gG G l)) := by
  obtain ⟨h1, h2, h3, h4, h5⟩ := hG.2.2.1 l hl
  have hn := hG.2.1
  have hp := hG.1
  obtain ⟨k1, k2, k3, k4⟩ := h.2.2.2.1 l hl
  have hi : inb (nI l) 10 := inb_nI (by omega) (by decide)
  unfold f_X8_gap
  rw [ck_t hi, ck_t hi, ck_t hi, ck_t hi, nI_clamp (by omega), k1, k2, k3, k4, gapBy_e h1 ⟨h2, h3⟩ h4 (by omega), bd_s, hw, if_neg (by rw [i_eq, nI_toInt (by omega)]; have : (-1 : Int32).toInt = -1 := rfl; omega)]
  show some (nI _ + nI 0) = _
  rw [nI_add]; rfl
theorem gapX {N c : Nat} {G : Gr} {z : Int32} {ls : Nat → Int64} {M : Mem} (hG : GrOk G) (h : NetX M c G z ls) {l : Nat} (hl : l < gN G) : f_X1_gapOf N c (nI l) M = some (nI (gG G l)) := by
  obtain ⟨h1, h2, h3, h4, h5⟩ := hG.2.2.1 l hl
  have hn := hG.2.1
  have hp := hG.1
  obtain ⟨k1, k2, k3, k4⟩ := h.2.2.2.1 l hl
  have hi : inb (nI l) 10 := inb_nI (by omega) (by decide)
  have hcl : (nI l).toNatClampNeg = l := nI_clamp (by omega)
  unfold f_X1_gapOf
  simp only [ck_t hi, nm_e1, hcl, k1, k2, k3, k4]
  show _ = some (nI (gapN (gK G l) (gF G l) (gA G l) (gB G l)))
  generalize gK G l = k at *
  generalize gF G l = f at *
  generalize gA G l = a at *
  generalize gB G l = b at *
  unfold gapN
  rcases (show k = 0 ∨ k = 1 ∨ k = 2 ∨ k = 3 ∨ k = 4 by omega) with rfl | rfl | rfl | rfl | rfl
  · rw [if_neg (by decide), if_neg (by decide), if_neg (by decide), if_neg (by decide)]; rfl
  · rw [if_pos (by decide), nI_1]; rfl
  · rw [if_neg (by decide), if_pos (by decide)]
    show _ = some (nI (if f ≤ 2 then 1 else f - 1))
    have e : nI f - 1 = nI (f - 1) := pk_sub (b := 1) (by omega)
    rw [e, show (1 : Int32) = nI 1 from rfl, maxI (by decide) (by omega), bd_s]
    rcases (show f = 1 ∨ f = 2 ∨ f = 3 by omega) with rfl | rfl | rfl <;> rfl
  · rw [if_neg (by decide), if_neg (by decide), if_pos (by decide), pk_sub (by omega)]; rfl
  · rw [if_neg (by decide), if_neg (by decide), if_neg (by decide), if_pos (by decide), ck_t (by decide), nI_add, even_e (by omega)]
    show (if nI ((a + b) % 2) = nI 0 then _ else _) = _
    by_cases c : (a + b) % 2 = 0
    · rw [if_pos (by rw [c])]; simp [c]; rfl
    · rw [if_neg (nI_ne (by omega) (by decide) c)]; simp [c]
/-- the net has changed (and the book) -/
theorem Cmp_net {Mx Mm Mx' Mm' : Mem} {G G' : Gr} {z z' : Int32} {ls ls' : Nat → Int64} (h : Cmp G z ls Mx Mm) (hx : ∀ a, ¬ (1 ≤ a ∧ a ≤ 6) → ¬ (19 ≤ a ∧ a ≤ 25) → Mx'.1 a = Mx.1 a ∧ Mx'.2 a = Mx.2 a) (h0 : ∀ j, 3 ≤ j → Mm'.1 0 j = Mm.1 0 j) (hm : ∀ a, 6 ≤ a → Mm'.1 a = Mm.1 a ∧ Mm'.2 a = Mm.2 a) (hG : GrOk G') (hX : NetX Mx' 1 G' z' ls') (hM : NetM Mm' G' z' ls') (hB : Bk Mx' G') : Cmp G' z' ls' Mx' Mm' := by
  obtain ⟨-, -, -, g4, -, g6, g7, g8, g9⟩ := h
  exact ⟨hG, hX, hM, by rw [h0 8 (by omega)]; exact g4, hB, g6.ag (by rw [(hx 0 (by omega) (by omega)).1]) (h0 43 (by omega)) (fun a h1 h2 => hx a (by omega) (by omega)) (fun j _ => by rw [(hm 23 (by omega)).1]) (fun j _ => by rw [(hm 24 (by omega)).1]) (fun j _ => by rw [(hm 25 (by omega)).2]), fun h hh => (g7 h hh).ag (hx _ (by omega) (by omega)) (fun a h1 h2 => by rw [(hm a (by omega)).1, (hm a (by omega)).2]; exact ⟨rfl, rfl⟩), fun s hs => (g8 s hs).ag ⟨(hx _ (by omega) (by omega)).1, (hx _ (by omega) (by omega)).2⟩ (by rw [(hm 20 (by omega)).1]) (by rw [(hm 21 (by omega)).1]) (fun i _ => by rw [(hm 22 (by omega)).2]), g9.ag (by rw [(hx 31 (by omega) (by omega)).1]) (hx 32 (by omega) (by omega)).1 (h0 31 (by omega)) (hm 18 (by omega)).1⟩
theorem setI_same {M : Mem} {k j : Nat} {v : Int32} (h : M.1 k j = v) : setI M k j v = M := by
  refine Prod.ext ?_ rfl
  funext a b
  show (if _ then (if _ then _ else _) else _) = _
  by_cases h1 : a = k
  · by_cases h2 : b = j
    · rw [if_pos h1, if_pos h2, h1, h2, h]
    · rw [if_pos h1, if_neg h2]
  · rw [if_neg h1]
theorem setI_twice {M : Mem} {k j : Nat} {v w : Int32} : setI (setI M k j v) k j w = setI M k j w := by
  refine Prod.ext ?_ rfl
  funext a b
  show (if _ then (if _ then _ else (if _ then (if _ then _ else _) else _)) else (if _ then _ else _)) = (if _ then (if _ then _ else _) else _)
  by_cases h1 : a = k
  · by_cases h2 : b = j
    · rw [if_pos h1, if_pos h2, if_pos h1, if_pos h2]
    · rw [if_pos h1, if_neg h2, if_pos h1, if_neg h2, if_pos h1, if_neg h2]
  · rw [if_neg h1, if_neg h1, if_neg h1]
abbrev allP : Int64 := 1099511627775
theorem addP_X {N c p n : Nat} {M : Mem} (hN : 2000 ≤ N) (hp : M.1 c 0 = nI p) (h : p + n ≤ 6) : f_X1_addPoints N c (nI n) M = some (segJ (setI M c 0 (nI (p + n))) (c + 5) p n allP) := by
  unfold f_X1_addPoints
  refine lp_cnt n (fun i a => a = (nI i, segJ (setI M c 0 (nI (p + i))) (c + 5) p i allP)) (fun i a rc hi hI => Or.inr ?_) (fun a rc hI => ?_) N 0 _ (by omega) (by rw [segJ_0, Nat.add_zero, setI_same hp]; rfl) (by omega)
  · subst hI
    refine ⟨(nI (i + 1), segJ (setI M c 0 (nI (p + (i + 1)))) (c + 5) p (i + 1) allP), rfl, ?_⟩
    have e : (segJ (setI M c 0 (nI (p + i))) (c + 5) p i allP).1 c 0 = nI (p + i) := by simp [segJ, setI_1]
    dsimp only
    rw [if_neg (nI_ge hi (by omega)), e, show (6 : Int32) = nI 6 from rfl, if_neg (nI_ge (b := 6) (by omega) (by decide)), ck_t (inb_nI (by omega) (by decide)), nm_e1, nm_e1, nm_e1, nI_clamp (by omega), segJ_s, nI_1]
    have e2 : (segJ (setI M c 0 (nI (p + i))) (c + 5) p (i + 1) allP).1 c 0 = nI (p + i) := by simp [segJ, setI_1]
    rw [e2, nI_1]
    show rc (_, segJ (setI (setI M c 0 (nI (p + i))) c 0 (nI (p + i + 1))) (c + 5) p (i + 1) allP) = _
    rw [setI_twice]; rfl
  · subst hI
    dsimp only
    rw [if_pos (nI_le (a := n) (b := n) (Nat.le_refl _) (by omega))]
theorem addP_M {N p n : Nat} {M : Mem} (hN : 2000 ≤ N) (hp : M.1 0 0 = nI p) (h : p + n ≤ 6) : f_X8_pointsCome N (nI n) M = some (segJ (setI M 0 0 (nI (p + n))) 5 p n allP) := by
  unfold f_X8_pointsCome
  refine lp_cnt n (fun i a => a = (nI i, segJ (setI M 0 0 (nI (p + i))) 5 p i allP)) (fun i a rc hi hI => Or.inr ?_) (fun a rc hI => ?_) N 0 _ (by omega) (by rw [segJ_0, Nat.add_zero, setI_same hp]; rfl) (by omega)
  · subst hI
    refine ⟨(nI (i + 1), segJ (setI M 0 0 (nI (p + (i + 1)))) 5 p (i + 1) allP), rfl, ?_⟩
    have e : (segJ (setI M 0 0 (nI (p + i))) 5 p i allP).1 0 0 = nI (p + i) := by simp [segJ, setI_1]
    dsimp only
    rw [if_neg (nI_ge hi (by omega)), e, ck_t (inb_nI (by omega) (by decide)), nm_e1, nm_e1, nm_e1, nI_clamp (by omega), segJ_s, nI_1]
    have e2 : (segJ (setI M 0 0 (nI (p + i))) 5 p (i + 1) allP).1 0 0 = nI (p + i) := by simp [segJ, setI_1]
    rw [e2, nI_1]
    show rc (_, segJ (setI (setI M 0 0 (nI (p + i))) 0 0 (nI (p + i + 1))) 5 p (i + 1) allP) = _
    rw [setI_twice]; rfl
  · subst hI
    dsimp only
    rw [if_pos (nI_le (a := n) (b := n) (Nat.le_refl _) (by omega))]
theorem NetX.addP {M : Mem} {c n : Nat} {G : Gr} {z : Int32} {ls : Nat → Int64} (h : NetX M c G z ls) : NetX (segJ (setI M c 0 (nI (gP G + n))) (c + 5) (gP G) n allP) c (gP G + n, G.2) z (fun p => if gP G ≤ p then allP else ls p) := by
  obtain ⟨a, b, d, e, f⟩ := h
  refine ⟨by simp [segJ, setI_1], by simp [segJ, setI_1]; exact b, by simp [segJ, setI_1]; exact d, fun l hl => by simp [segJ, setI_1]; exact e l hl, fun p hp => ?_⟩
  have hp : p < gP G + n := hp
  show (if _ then _ else _) = (if _ then _ else _)
  by_cases hq : gP G ≤ p
  · rw [if_pos (by omega), if_pos hq]
  · rw [if_neg (by omega), if_neg hq]; exact f p (by omega)
theorem NetM.addP {M : Mem} {n : Nat} {G : Gr} {z : Int32} {ls : Nat → Int64} (h : NetM M G z ls) : NetM (segJ (setI M 0 0 (nI (gP G + n))) 5 (gP G) n allP) (gP G + n, G.2) z (fun p => if gP G ≤ p then allP else ls p) := by
  obtain ⟨a, b, d, e, f⟩ := h
  refine ⟨by simp [segJ, setI_1], by simp [segJ, setI_1]; exact b, by simp [segJ, setI_1]; exact d, fun l hl => by simp [segJ, setI_1]; exact e l hl, fun p hp => ?_⟩
  have hp : p < gP G + n := hp
  show (if _ then _ else _) = (if _ then _ else _)
  by_cases hq : gP G ≤ p
  · rw [if_pos (by omega), if_pos hq]
  · rw [if_neg (by omega), if_neg hq]; exact f p (by omega)
theorem GrOk.addP {G : Gr} {n : Nat} (h : GrOk G) (hn : gP G + n ≤ 6) : GrOk (gP G + n, G.2) := by
  obtain ⟨a, b, c, d⟩ := h
  refine ⟨hn, b, fun l hl => ?_, d⟩
  obtain ⟨c1, c2, c3, c4, c5⟩ := c l hl
  exact ⟨c1, c2, c3, c4, Nat.lt_of_lt_of_le c5 (Nat.le_add_right _ _)⟩
theorem s_0 {N : Nat} (hN : 2000 ≤ N) : St_0 N Rel := by
  intro Mx Mm a0 h
  apply rr_st
  obtain ⟨G, z, ls, hc⟩ := id h
  obtain ⟨hG, hX, hM, -⟩ := id hc
  have hp := hG.1
  unfold f_X7_points f_X8_points
  rw [within_e, inI_e N a0 1 6 Mm (by decide) (by decide), bd_s, bd_s, ite_bI, ite_bI, hX.1, hM.1]
  refine rr_ite Iff.rfl (fun hv => ?_) (fun _ => rr_ret ⟨rfl, h⟩)
  obtain ⟨n, n4, rfl⟩ := nI_of_le 6 (by decide) ⟨by rw [i_le] at *; have := hv.1; have e1 : (1 : Int32).toInt = 1 := rfl; have e0 : (0 : Int32).toInt = 0 := rfl; omega, hv.2⟩
  rw [show (6 : Int32) = nI 6 from rfl, pk_sub hp, nI_add]
  refine rr_ite (by rw [nI_leI (by omega) (by omega), nI_leI (by omega) (by omega)]; omega) (fun hle => ?_) (fun _ => rr_ret ⟨rfl, h⟩)
  have hle : n ≤ 6 - gP G := (nI_leI (by omega) (by omega)).mp hle
  rw [addP_X hN hX.1 (by omega), addP_M hN hM.1 (by omega), bd_s, bd_s]
  refine rr_ret ⟨by simp [segJ, setI_1], (gP G + n, G.2), z, _, Cmp_net hc (fun a h1 h2 => ⟨?_, ?_⟩) (fun j hj => ?_) (fun a ha => ⟨?_, ?_⟩) (hG.addP (by omega)) hX.addP hM.addP ?_⟩
  · show (setI Mx 1 0 _).1 a = _; exact setI_o (by omega)
  · funext b; show (if _ then _ else _) = _; rw [if_neg (by omega)]; rfl
  · show (setI Mm 0 0 _).1 0 j = _; simp [setI_1]; omega
  · show (setI Mm 0 0 _).1 a = _; exact setI_o (by omega)
  · funext b; show (if _ then _ else _) = _; rw [if_neg (by omega)]; rfl
  · exact (hc.2.2.2.2.1.ag (fun a h1 h2 => by show (setI Mx 1 0 _).1 a = _; exact setI_o (by omega))).pts rfl
theorem s_5 {N : Nat} : St_5 N Rel := by
  intro Mx Mm a0 a1 h
  apply rr_stJ
  obtain ⟨G, z, ls, hc⟩ := id h
  obtain ⟨hG, hX, hM, -⟩ := id hc
  have hp := hG.1
  unfold f_X7_list f_X8_list
  rw [ptX, ptM hM.1 hp, bd_s, bd_s, ite_bI, ite_bI, hX.1]
  refine rr_ite Iff.rfl (fun hv => ?_) (fun _ => rr_ret ⟨rfl, h⟩)
  obtain ⟨p, hpp, rfl⟩ := nI_of_lt (by omega) hv
  refine rr_ite Iff.rfl (fun _ => ?_) (fun _ => rr_ret ⟨rfl, h⟩)
  have hi : inb (nI p) 6 := inb_nI (by omega) (by decide)
  have hcl : (nI p).toNatClampNeg = p := nI_clamp (by omega)
  simp only [ck_t hi, nm_e1, hcl]
  refine rr_ret ⟨(hX.2.2.2.2 p hpp).trans (hM.2.2.2.2 p hpp).symm, G, z, (fun q => if q = p then a1 else ls q), Cmp_net hc (fun a h1 h2 => ⟨rfl, setJ_o (by omega)⟩) (fun j hj => rfl) (fun a ha => ⟨rfl, setJ_o (by omega)⟩) hG ?_ ?_ (hc.2.2.2.2.1.ag (fun a h1 h2 => rfl))⟩
  · obtain ⟨a, b, d, e, f⟩ := hX
    refine ⟨a, b, d, e, fun q hq => ?_⟩
    show (setJ Mx 6 p a1).2 6 q = (if q = p then a1 else ls q)
    rw [setJ_2, if_pos rfl]
    by_cases c : q = p
    · rw [if_pos c, if_pos c]
    · rw [if_neg c, if_neg c]; exact f q hq
  · obtain ⟨a, b, d, e, f⟩ := hM
    refine ⟨a, b, d, e, fun q hq => ?_⟩
    show (setJ Mm 5 p a1).2 5 q = (if q = p then a1 else ls q)
    rw [setJ_2, if_pos rfl]
    by_cases c : q = p
    · rw [if_pos c, if_pos c]
    · rw [if_neg c, if_neg c]; exact f q hq
theorem s_2 {N : Nat} : St_2 N Rel := by
  intro Mx Mm a0 a1 h
  obtain ⟨G, z, ls, hc⟩ := id h
  obtain ⟨hG, hX, hM, hw, -⟩ := id hc
  have hn := hG.2.1
  suffices q : RR (fun a b => a = b) (f_X7_lineOf N a0 a1 Mx) (f_X8_lineOf N a0 a1 Mm) by
    obtain ⟨a, b, e1, e2, rfl⟩ := q
    exact ⟨a, e1, e2, h⟩
  unfold f_X7_lineOf f_X8_lineOf
  rw [lnX, lnM hM.2.1 hn, bd_s, bd_s, ite_bI, ite_bI, hX.2.1]
  refine rr_ite Iff.rfl (fun hv => ?_) (fun _ => rr_ret rfl)
  obtain ⟨l, hl, rfl⟩ := nI_of_lt (by omega) hv
  have hi : inb (nI l) 10 := inb_nI (by omega) (by decide)
  have hcl : (nI l).toNatClampNeg = l := nI_clamp (by omega)
  obtain ⟨x1, x2, x3, x4⟩ := hX.2.2.2.1 l hl
  obtain ⟨m1, m2, m3, m4⟩ := hM.2.2.2.1 l hl
  simp only [ck_t hi, hcl]
  refine rr_ite Iff.rfl (fun _ => rr_ret (x1.trans m1.symm)) (fun _ => ?_)
  refine rr_ite Iff.rfl (fun _ => rr_ret (x2.trans m2.symm)) (fun _ => ?_)
  refine rr_ite Iff.rfl (fun _ => ?_) (fun _ => ?_)
  · rw [gapX hG hX hl, gapM hG hM hw hl]; exact rr_ret rfl
  refine rr_ite Iff.rfl (fun _ => rr_ret (x3.trans m3.symm)) (fun _ => ?_)
  exact rr_ite Iff.rfl (fun _ => rr_ret (x4.trans m4.symm)) (fun _ => rr_ret rfl)
/-- sums of gaps -/
def sumG (G : Gr) : Nat → Nat
  | 0 => 0
  | n + 1 => sumG G n + gG G n
theorem sumG_le {G : Gr} (h : GrOk G) : ∀ n, n ≤ gN G → sumG G n ≤ 5 * n
  | 0, _ => Nat.le_refl _
  | n + 1, hn => by have h1 := sumG_le h n (by omega); have h2 := gG_in h (l := n) (by omega); show sumG G n + gG G n ≤ _; omega
theorem allG_X {N : Nat} (hN : 2000 ≤ N) {c : Nat} {G : Gr} {z : Int32} {ls : Nat → Int64} {M : Mem} (hG : GrOk G) (h : NetX M c G z ls) : f_X1_allGaps N c M = some (nI (sumG G (gN G))) := by
  have hn := hG.2.1
  unfold f_X1_allGaps
  refine lp_cnt (gN G) (fun i a => a = (nI (sumG G i), nI i)) (fun i a rc hi hI => Or.inr ?_) (fun a rc hI => ?_) N 0 _ (by omega) rfl (by omega)
  · subst hI
    refine ⟨_, rfl, ?_⟩
    dsimp only
    rw [h.2.1, if_neg (nI_ge hi (by omega)), gapX hG h hi, bd_s, nm_e1, nm_e1, nI_add, nI_1]
    rfl
  · subst hI
    dsimp only
    rw [h.2.1, if_pos (nI_le (a := gN G) (b := gN G) (Nat.le_refl _) (by omega))]
theorem s_6 {N : Nat} (hN : 2000 ≤ N) : St_6 N Rel := by
  intro Mx Mm a0 h
  obtain ⟨G, z, ls, hc⟩ := id h
  obtain ⟨hG, hX, hM, hw, -⟩ := id hc
  obtain ⟨t, t1, t2, t3, t4⟩ := hc.2.2.2.2.2.2.2.2
  have hn := hG.2.1
  have e : f_X8_count N a0 Mm = (if a0 = 0 then (some (Mm.1 0 0)) else if a0 = 1 then (some (Mm.1 0 1)) else if a0 = 2 then (some (nI (sumG G (gN G)))) else if a0 = 3 then (some (Mm.1 0 2)) else if a0 = 4 then (some (Mm.1 0 31)) else (some (-2 : Int32))) := by
    unfold f_X8_count
    refine lp_cnt (gN G) (fun i a => a = (nI (sumG G i), nI i)) (fun i a rc hi hI => Or.inr ?_) (fun a rc hI => ?_) N 0 _ (by omega) rfl (by omega)
    · subst hI
      refine ⟨_, rfl, ?_⟩
      dsimp only
      rw [hM.2.1, if_neg (nI_ge hi (by omega)), gapM hG hM hw hi, bd_s, nm_e1, nm_e1, nI_add, nI_1]
      rfl
    · subst hI
      dsimp only
      rw [hM.2.1, if_pos (nI_le (a := gN G) (b := gN G) (Nat.le_refl _) (by omega))]
  suffices q : RR (fun a b => a = b) (f_X7_count N a0 Mx) (f_X8_count N a0 Mm) by
    obtain ⟨a, b, e1, e2, rfl⟩ := q
    exact ⟨a, e1, e2, h⟩
  rw [e]
  unfold f_X7_count
  rw [allG_X hN hG hX, bd_s, hX.1, hX.2.1, hX.2.2.1, hM.1, hM.2.1, hM.2.2.1, t2, t3]
  refine rr_ite Iff.rfl (fun _ => rr_ret rfl) (fun _ => ?_)
  refine rr_ite Iff.rfl (fun _ => rr_ret rfl) (fun _ => ?_)
  refine rr_ite Iff.rfl (fun _ => rr_ret rfl) (fun _ => ?_)
  refine rr_ite Iff.rfl (fun _ => rr_ret rfl) (fun _ => ?_)
  exact rr_ite Iff.rfl (fun _ => rr_ret rfl) (fun _ => rr_ret rfl)
