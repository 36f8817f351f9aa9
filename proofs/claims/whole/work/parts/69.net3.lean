/-! a line changes, goes -/
theorem m2_ne {k : Nat} (h : k < 2 ^ 31) : ¬ nI k = (-2 : Int32) := by rw [i_eq, nI_toInt h]; have : (-2 : Int32).toInt = -2 := rfl; omega
def grSet (G : Gr) (w l v : Nat) : Gr := (gP G, gN G, (fun i => if w = 0 ∧ i = l then v else gK G i), (fun i => if w = 1 ∧ i = l then v else gF G i), gA G, gB G)
theorem GrOk.set {G : Gr} (h : GrOk G) {w l v : Nat} (h0 : w = 0 → v < 5) (h1 : w = 1 → 1 ≤ v ∧ v ≤ 3) : GrOk (grSet G w l v) := by
  obtain ⟨a, b, c, d⟩ := h
  refine ⟨a, b, fun i hi => ?_, d⟩
  obtain ⟨c1, c2, c3, c4, c5⟩ := c i hi
  show (if _ then _ else _) < 5 ∧ 1 ≤ (if _ then _ else _) ∧ (if _ then _ else _) ≤ 3 ∧ _ ∧ _
  refine ⟨?_, ?_, ?_, c4, c5⟩
  · split
    next q => exact h0 q.1
    next => exact c1
  · split
    next q => exact (h1 q.1).1
    next => exact c2
  · split
    next q => exact (h1 q.1).2
    next => exact c3
theorem NetX_M {M : Mem} {G : Gr} {z : Int32} {ls : Nat → Int64} : NetM M G z ls ↔ NetX M 0 G z ls := by unfold NetM NetX; rfl
theorem NetX.set0 {M : Mem} {c : Nat} {G : Gr} {z : Int32} {ls : Nat → Int64} (h : NetX M c G z ls) (l v : Nat) : NetX (setI M (c + 1) l (nI v)) c (grSet G 0 l v) z ls := by
  obtain ⟨a, b, d, e, f⟩ := h
  refine ⟨by simp [setI_1]; exact a, by simp [setI_1]; exact b, by simp [setI_1]; exact d, fun i hi => ?_, f⟩
  obtain ⟨e1, e2, e3, e4⟩ := e i hi
  by_cases q : i = l
  · subst q; simp [setI_1, grSet, gK, gF, gA, gB]; exact ⟨e2, e3, e4⟩
  · simp [setI_1, grSet, q, gK, gF, gA, gB]; exact ⟨e1, e2, e3, e4⟩
theorem NetX.set1 {M : Mem} {c : Nat} {G : Gr} {z : Int32} {ls : Nat → Int64} (h : NetX M c G z ls) (l v : Nat) : NetX (setI M (c + 2) l (nI v)) c (grSet G 1 l v) z ls := by
  obtain ⟨a, b, d, e, f⟩ := h
  refine ⟨by simp [setI_1]; exact a, by simp [setI_1]; exact b, by simp [setI_1]; exact d, fun i hi => ?_, f⟩
  obtain ⟨e1, e2, e3, e4⟩ := e i hi
  by_cases q : i = l
  · subst q; simp [setI_1, grSet, gK, gF, gA, gB]; exact ⟨e1, e3, e4⟩
  · simp [setI_1, grSet, q, gK, gF, gA, gB]; exact ⟨e1, e2, e3, e4⟩
theorem s_3 {N : Nat} : St_3 N Rel := by
  intro Mx Mm a0 a1 a2 h
  apply rr_st
  obtain ⟨G, z, ls, hc⟩ := id h
  obtain ⟨hG, hX, hM, -⟩ := id hc
  have hn := hG.2.1
  unfold f_X7_change f_X8_change
  rw [lnX, lnM hM.2.1 hn, bd_s, bd_s, ite_bI, ite_bI, hX.2.1]
  refine rr_ite Iff.rfl (fun hv => ?_) (fun _ => rr_ret ⟨rfl, h⟩)
  obtain ⟨l, hl, rfl⟩ := nI_of_lt (by omega) hv
  have hi : inb (nI l) 10 := inb_nI (by omega) (by decide)
  have hcl : (nI l).toNatClampNeg = l := nI_clamp (by omega)
  obtain ⟨x1, x2, x3, x4⟩ := hX.2.2.2.1 l hl
  obtain ⟨m1, m2, m3, m4⟩ := hM.2.2.2.1 l hl
  obtain ⟨o1, o2, o3, o4, o5⟩ := hG.2.2.1 l hl
  have x1 : Mx.1 2 l = nI (gK G l) := x1
  have x2 : Mx.1 3 l = nI (gF G l) := x2
  have e01 := inI_e N a1 (a := 0) (b := 1) 0 1 Mm (by decide) (by decide)
  by_cases c0 : a1 = 0
  · subst c0
    have i4 := inI_e N a2 (a := Int32.toInt64 0) (b := 4) 0 4 Mm (by decide) (by decide)
    simp only [jn_e, isKX, isFX, e01, i4, ck_t hi, nm_e1, hcl, fgt_e, bd_s, ite_bI, x1, x2, m1, m2, if_true, if_false, if_neg (show ¬ (0 : Int32) = 1 by decide), if_pos (show (0 : Int32) ≤ 0 ∧ (0 : Int32) ≤ 1 by decide), if_true]
    refine rr_ite Iff.rfl (fun v2 => ?_) (fun _ => ?_)
    · rw [if_neg (m2_ne (show gK G l < 2 ^ 31 by omega))]
      obtain ⟨v, hv4, rfl⟩ := nI_of_le 4 (by decide) v2
      refine rr_ret ⟨rfl, grSet G 0 l v, z, ls, Cmp_net hc (fun q q1 q2 => ⟨by show (fgt _).1 q = _; rw [fgt_o (by omega), setI_o (by omega)], rfl⟩) (fun j hj => by show (setI _ _ _ _).1 0 j = _; rw [setI_o (by omega)]) (fun q hq => ⟨setI_o (by omega), rfl⟩) (hG.set (fun _ => by omega) (fun q => by omega)) (fgt_NetX ?_ (by omega)) ?_ (fgt_Bk (M := setI Mx 2 l (nI v)) rfl)⟩
      · exact hX.set0 l v
      · exact NetX_M.mpr ((NetX_M.mp hM).set0 l v)
    · exact rr_ret ⟨rfl, h⟩
  · by_cases c1 : a1 = 1
    · subst c1
      have i4 := inI_e N a2 (a := Int32.toInt64 1) (b := 3) 1 3 Mm (by decide) (by decide)
      simp only [jn_e, isKX, isFX, e01, i4, ck_t hi, nm_e1, hcl, fgt_e, bd_s, ite_bI, x1, x2, m1, m2, if_true, if_false, if_neg (show ¬ (1 : Int32) = 0 by decide), if_pos (show (0 : Int32) ≤ 1 ∧ (1 : Int32) ≤ 1 by decide), if_true]
      refine rr_ite Iff.rfl (fun v2 => ?_) (fun _ => ?_)
      · rw [if_neg (m2_ne (show gF G l < 2 ^ 31 by omega))]
        obtain ⟨v, v1, hv4, rfl⟩ := nI_of_1 3 (by decide) v2
        refine rr_ret ⟨rfl, grSet G 1 l v, z, ls, Cmp_net hc (fun q q1 q2 => ⟨by show (fgt _).1 q = _; rw [fgt_o (by omega), setI_o (by omega)], rfl⟩) (fun j hj => by show (setI _ _ _ _).1 0 j = _; rw [setI_o (by omega)]) (fun q hq => ⟨setI_o (by omega), rfl⟩) (hG.set (fun q => by omega) (fun _ => ⟨v1, hv4⟩)) (fgt_NetX ?_ (by omega)) ?_ (fgt_Bk (M := setI Mx 3 l (nI v)) rfl)⟩
        · exact hX.set1 l v
        · exact NetX_M.mpr ((NetX_M.mp hM).set1 l v)
      · exact rr_ret ⟨rfl, h⟩
    · simp only [jn_e, e01, bd_s, ite_bI, if_neg c0, if_neg c1, if_true]
      rw [if_neg (fun q => ?_)]
      · exact rr_ret ⟨rfl, h⟩
      · have h1 := (i_le _ _).mp q.1
        have h2 := (i_le _ _).mp q.2
        have e0 : (0 : Int32).toInt = 0 := rfl
        have e1 : (1 : Int32).toInt = 1 := rfl
        rw [e0] at h1; rw [e1] at h2
        rcases (show a1.toInt = 0 ∨ a1.toInt = 1 by omega) with w | w
        · exact c0 ((i_eq _ _).mpr w)
        · exact c1 ((i_eq _ _).mpr w)
/-- the lines behind a place, moved up to a place -/
def shM (M : Mem) (c g i : Nat) : Mem := (fun a b => if (c + 1 ≤ a ∧ a ≤ c + 4) ∧ g ≤ b ∧ b < i then M.1 a (b + 1) else M.1 a b, M.2)
theorem shM_0 (M : Mem) (c g : Nat) : shM M c g g = M := by
  refine Prod.ext ?_ rfl
  funext a b
  show (if _ then _ else _) = _
  rw [if_neg (by omega)]
theorem shM_r (M : Mem) (c g i a b : Nat) (h : i ≤ b) : (shM M c g i).1 a b = M.1 a b := by
  show (if _ then _ else _) = _
  rw [if_neg (by omega)]
theorem shM_out {M : Mem} {c g i a : Nat} (h : a < c + 1 ∨ c + 4 < a) : (shM M c g i).1 a = M.1 a := by
  funext b
  show (if _ then _ else _) = _
  rw [if_neg (by omega)]
theorem shM_s (M : Mem) (c g i : Nat) (h : g ≤ i) : setI (setI (setI (setI (shM M c g i) (c + 1) i (M.1 (c + 1) (i + 1))) (c + 2) i (M.1 (c + 2) (i + 1))) (c + 3) i (M.1 (c + 3) (i + 1))) (c + 4) i (M.1 (c + 4) (i + 1)) = shM M c g (i + 1) := by
  refine Prod.ext ?_ rfl
  funext a b
  rw [setI_1, setI_1, setI_1, setI_1]
  show _ = (if _ then _ else _)
  by_cases hb : b = i
  · subst hb
    by_cases a1 : a = c + 1
    · subst a1; simp; intro q; omega
    · by_cases a2 : a = c + 2
      · subst a2; simp; intro q; omega
      · by_cases a3 : a = c + 3
        · subst a3; simp; intro q; omega
        · by_cases a4 : a = c + 4
          · subst a4; simp; intro q; omega
          · rw [if_neg a4, if_neg a3, if_neg a2, if_neg a1, if_neg (by omega)]
            show (if _ then _ else _) = _
            rw [if_neg (by omega)]
  · simp only [if_neg hb, ite_self]
    show (if _ then _ else _) = _
    by_cases q : (c + 1 ≤ a ∧ a ≤ c + 4) ∧ g ≤ b ∧ b < i
    · rw [if_pos q, if_pos (by omega)]
    · rw [if_neg q, if_neg (by omega)]
def grDrop (G : Gr) (g : Nat) : Gr := (gP G, gN G - 1, (fun l => if g ≤ l then gK G (l + 1) else gK G l), (fun l => if g ≤ l then gF G (l + 1) else gF G l), (fun l => if g ≤ l then gA G (l + 1) else gA G l), (fun l => if g ≤ l then gB G (l + 1) else gB G l))
theorem GrOk.drop {G : Gr} (h : GrOk G) {g : Nat} (hg : g < gN G) : GrOk (grDrop G g) := by
  obtain ⟨a, b, c, d⟩ := h
  refine ⟨a, by show gN G - 1 ≤ 10; omega, fun l hl => ?_, fun l m hl hm e1 e2 => ?_⟩
  · have hl : l < gN G - 1 := hl
    show (if _ then _ else _) < 5 ∧ 1 ≤ (if _ then _ else _) ∧ (if _ then _ else _) ≤ 3 ∧ (if _ then _ else _) < (if _ then _ else _) ∧ (if _ then _ else _) < gP G
    by_cases q : g ≤ l
    · simp only [if_pos q]; exact c (l + 1) (by omega)
    · simp only [if_neg q]; exact c l (by omega)
  · have hl : l < gN G - 1 := hl
    have hm : m < gN G - 1 := hm
    have e1 : (if g ≤ l then gA G (l + 1) else gA G l) = (if g ≤ m then gA G (m + 1) else gA G m) := e1
    have e2 : (if g ≤ l then gB G (l + 1) else gB G l) = (if g ≤ m then gB G (m + 1) else gB G m) := e2
    by_cases q : g ≤ l <;> by_cases r : g ≤ m
    · rw [if_pos q, if_pos r] at e1 e2
      have := d (l + 1) (m + 1) (by omega) (by omega) e1 e2; omega
    · rw [if_pos q, if_neg r] at e1 e2
      have := d (l + 1) m (by omega) (by omega) e1 e2; omega
    · rw [if_neg q, if_pos r] at e1 e2
      have := d l (m + 1) (by omega) (by omega) e1 e2; omega
    · rw [if_neg q, if_neg r] at e1 e2
      exact d l m (by omega) (by omega) e1 e2
theorem rem_X {N c n g : Nat} {M : Mem} (hN : 2000 ≤ N) (h : M.1 c 1 = nI n) (hg : g < n) (hn : n ≤ 10) : f_X1_removeLine N c (nI g) M = some (shM (setI M c 1 (nI (n - 1))) c g (n - 1)) := by
  have e0 : nI n - 1 = nI (n - 1) := pk_sub (b := 1) (by omega)
  unfold f_X1_removeLine
  rw [nm_e1, h, e0]
  generalize hM1 : setI M c 1 (nI (n - 1)) = M1
  have h1 : M1.1 c 1 = nI (n - 1) := by rw [← hM1]; simp [setI_1]
  refine lp_cnt (n - 1) (fun i a => g ≤ i ∧ a = (nI i, shM M1 c g i)) (fun i a rc hi hI => Or.inr ?_) (fun a rc hI => ?_) N g _ (by omega) ⟨Nat.le_refl _, by rw [shM_0]⟩ (by omega)
  · obtain ⟨hgi, rfl⟩ := hI
    refine ⟨(nI (i + 1), shM M1 c g (i + 1)), ⟨by omega, rfl⟩, ?_⟩
    have e1 : (shM M1 c g i).1 c 1 = nI (n - 1) := by
      show (if _ then _ else _) = _
      rw [if_neg (by omega), h1]
    have i1 : inb (nI i) 10 := inb_nI (by omega) (by decide)
    have i2 : inb (nI (i + 1)) 10 := inb_nI (by omega) (by decide)
    have c1 : (nI i).toNatClampNeg = i := nI_clamp (by omega)
    have c2 : (nI (i + 1)).toNatClampNeg = i + 1 := nI_clamp (by omega)
    dsimp only
    rw [e1, if_neg (nI_ge hi (by omega))]
    simp only [nI_1, ck_t i1, ck_t i2, nm_e1, c1, c2]
    have r1 : ∀ a, (shM M1 c g i).1 a (i + 1) = M1.1 a (i + 1) := fun a => shM_r M1 c g i a (i + 1) (by omega)
    have f2 : ∀ v, (setI (shM M1 c g i) (c + 1) i v).1 (c + 2) (i + 1) = M1.1 (c + 2) (i + 1) := fun v => by rw [setI_o (by omega), r1]
    have f3 : ∀ v w, (setI (setI (shM M1 c g i) (c + 1) i v) (c + 2) i w).1 (c + 3) (i + 1) = M1.1 (c + 3) (i + 1) := fun v w => by rw [setI_o (by omega), setI_o (by omega), r1]
    have f4 : ∀ v w x, (setI (setI (setI (shM M1 c g i) (c + 1) i v) (c + 2) i w) (c + 3) i x).1 (c + 4) (i + 1) = M1.1 (c + 4) (i + 1) := fun v w x => by rw [setI_o (by omega), setI_o (by omega), setI_o (by omega), r1]
    rw [r1, f2, f3, f4, shM_s M1 c g i hgi]
  · obtain ⟨hgi, rfl⟩ := hI
    dsimp only
    have e1 : (shM M1 c g (n - 1)).1 c 1 = nI (n - 1) := by
      show (if _ then _ else _) = _
      rw [if_neg (by omega), h1]
    rw [e1, if_pos (nI_le (a := n - 1) (b := n - 1) (Nat.le_refl _) (by omega))]
theorem NetX.drop {M : Mem} {c g : Nat} {G : Gr} {z : Int32} {ls : Nat → Int64} (h : NetX M c G z ls) (hg : g < gN G) : NetX (shM (setI M c 1 (nI (gN G - 1))) c g (gN G - 1)) c (grDrop G g) z ls := by
  obtain ⟨h1, h2, h3, h4, h5⟩ := h
  have e : ∀ a b, (shM (setI M c 1 (nI (gN G - 1))) c g (gN G - 1)).1 a b = if (c + 1 ≤ a ∧ a ≤ c + 4) ∧ g ≤ b ∧ b < gN G - 1 then (setI M c 1 (nI (gN G - 1))).1 a (b + 1) else (setI M c 1 (nI (gN G - 1))).1 a b := fun a b => rfl
  refine ⟨?_, ?_, ?_, fun l hl => ?_, h5⟩
  · rw [e, if_neg (by omega)]; simp [setI_1]; exact h1
  · rw [e, if_neg (by omega)]; simp [setI_1, grDrop]
  · rw [e, if_neg (by omega)]; simp [setI_1]; exact h3
  · have hl : l < gN G - 1 := hl
    show _ = nI (if _ then _ else _) ∧ _ = nI (if _ then _ else _) ∧ _ = nI (if _ then _ else _) ∧ _ = nI (if _ then _ else _)
    rw [e, e, e, e]
    by_cases q : g ≤ l
    · rw [if_pos (show (c + 1 ≤ c + 1 ∧ c + 1 ≤ c + 4) ∧ g ≤ l ∧ l < gN G - 1 by omega), if_pos (show (c + 1 ≤ c + 2 ∧ c + 2 ≤ c + 4) ∧ g ≤ l ∧ l < gN G - 1 by omega), if_pos (show (c + 1 ≤ c + 3 ∧ c + 3 ≤ c + 4) ∧ g ≤ l ∧ l < gN G - 1 by omega), if_pos (show (c + 1 ≤ c + 4 ∧ c + 4 ≤ c + 4) ∧ g ≤ l ∧ l < gN G - 1 by omega), setI_o (by omega), setI_o (by omega), setI_o (by omega), setI_o (by omega)]
      simp only [if_pos q]
      exact h4 (l + 1) (by omega)
    · rw [if_neg (show ¬ ((c + 1 ≤ c + 1 ∧ c + 1 ≤ c + 4) ∧ g ≤ l ∧ l < gN G - 1) by omega), if_neg (show ¬ ((c + 1 ≤ c + 2 ∧ c + 2 ≤ c + 4) ∧ g ≤ l ∧ l < gN G - 1) by omega), if_neg (show ¬ ((c + 1 ≤ c + 3 ∧ c + 3 ≤ c + 4) ∧ g ≤ l ∧ l < gN G - 1) by omega), if_neg (show ¬ ((c + 1 ≤ c + 4 ∧ c + 4 ≤ c + 4) ∧ g ≤ l ∧ l < gN G - 1) by omega), setI_o (by omega), setI_o (by omega), setI_o (by omega), setI_o (by omega)]
      simp only [if_neg q]
      exact h4 l (by omega)
theorem s_4 {N : Nat} (hN : 2000 ≤ N) : St_4 N Rel := by
  intro Mx Mm a0 h
  apply rr_st
  obtain ⟨G, z, ls, hc⟩ := id h
  obtain ⟨hG, hX, hM, -⟩ := id hc
  have hn := hG.2.1
  unfold f_X7_drop f_X8_drop
  rw [lnX, lnM hM.2.1 hn, bd_s, bd_s, ite_bI, ite_bI, hX.2.1]
  refine rr_ite Iff.rfl (fun hv => ?_) (fun _ => rr_ret ⟨rfl, h⟩)
  obtain ⟨g, hg, rfl⟩ := nI_of_lt (by omega) hv
  have hX' := fgt_NetX hX (by omega)
  rw [fgt_e, bd_s, rem_X hN hX'.2.1 hg hn, bd_s]
  have hm : nm (setI Mm 0 1 (Mm.1 0 1 - 1)) (fun M3 => lp (fun (k23 : (Int32 × Mem) → Option (Int32 × Mem)) (a23 : Int32 × Mem) => if (a23.2.1 0 1) ≤ a23.1 then (some ((a23.2.1 0 1), a23.2)) else (ck (inb (a23.1 + (1 : Int32)) 10) (ck (inb a23.1 10) (nm (setI a23.2 1 a23.1.toNatClampNeg (a23.2.1 1 (a23.1 + (1 : Int32)).toNatClampNeg)) (fun M4 => ck (inb (a23.1 + (1 : Int32)) 10) (ck (inb a23.1 10) (nm (setI M4 2 a23.1.toNatClampNeg (M4.1 2 (a23.1 + (1 : Int32)).toNatClampNeg)) (fun M5 => ck (inb (a23.1 + (1 : Int32)) 10) (ck (inb a23.1 10) (nm (setI M5 3 a23.1.toNatClampNeg (M5.1 3 (a23.1 + (1 : Int32)).toNatClampNeg)) (fun M6 => ck (inb (a23.1 + (1 : Int32)) 10) (ck (inb a23.1 10) (nm (setI M6 4 a23.1.toNatClampNeg (M6.1 4 (a23.1 + (1 : Int32)).toNatClampNeg)) (fun M7 => nm (a23.1 + (1 : Int32)) (fun v8 => k23 (v8, M7)))))))))))))))) N (nI g, M3)) = some (nI (gN G - 1), shM (setI Mm 0 1 (nI (gN G - 1))) 0 g (gN G - 1)) := by
    have e0 : nI (gN G) - 1 = nI (gN G - 1) := pk_sub (b := 1) (by omega)
    rw [nm_e1, hM.2.1, e0]
    generalize hM1 : setI Mm 0 1 (nI (gN G - 1)) = M1
    have h1 : M1.1 0 1 = nI (gN G - 1) := by rw [← hM1]; simp [setI_1]
    refine lp_cnt (gN G - 1) (fun i a => g ≤ i ∧ a = (nI i, shM M1 0 g i)) (fun i a rc hi hI => Or.inr ?_) (fun a rc hI => ?_) N g _ (by omega) ⟨Nat.le_refl _, by rw [shM_0]⟩ (by omega)
    · obtain ⟨hgi, rfl⟩ := hI
      refine ⟨(nI (i + 1), shM M1 0 g (i + 1)), ⟨by omega, rfl⟩, ?_⟩
      have e1 : (shM M1 0 g i).1 0 1 = nI (gN G - 1) := by rw [shM_out (by omega), h1]
      have i1 : inb (nI i) 10 := inb_nI (by omega) (by decide)
      have i2 : inb (nI (i + 1)) 10 := inb_nI (by omega) (by decide)
      have c1 : (nI i).toNatClampNeg = i := nI_clamp (by omega)
      have c2 : (nI (i + 1)).toNatClampNeg = i + 1 := nI_clamp (by omega)
      dsimp only
      rw [e1, if_neg (nI_ge hi (by omega))]
      simp only [nI_1, ck_t i1, ck_t i2, nm_e1, c1, c2]
      have r1 : ∀ a, (shM M1 0 g i).1 a (i + 1) = M1.1 a (i + 1) := fun a => shM_r M1 0 g i a (i + 1) (by omega)
      have f2 : ∀ v, (setI (shM M1 0 g i) 1 i v).1 2 (i + 1) = M1.1 2 (i + 1) := fun v => by rw [setI_o (by omega), r1]
      have f3 : ∀ v w, (setI (setI (shM M1 0 g i) 1 i v) 2 i w).1 3 (i + 1) = M1.1 3 (i + 1) := fun v w => by rw [setI_o (by omega), setI_o (by omega), r1]
      have f4 : ∀ v w x, (setI (setI (setI (shM M1 0 g i) 1 i v) 2 i w) 3 i x).1 4 (i + 1) = M1.1 4 (i + 1) := fun v w x => by rw [setI_o (by omega), setI_o (by omega), setI_o (by omega), r1]
      rw [r1, f2, f3, f4]
      exact congrArg (fun m => rc (nI (i + 1), m)) (shM_s M1 0 g i hgi)
    · obtain ⟨hgi, rfl⟩ := hI
      dsimp only
      have e1 : (shM M1 0 g (gN G - 1)).1 0 1 = nI (gN G - 1) := by rw [shM_out (by omega), h1]
      rw [e1, if_pos (nI_le (a := gN G - 1) (b := gN G - 1) (Nat.le_refl _) (by omega))]
  rw [hm]
  refine rr_ret ⟨?_, grDrop G g, z, ls, Cmp_net hc (fun q q1 q2 => ⟨?_, rfl⟩) (fun j hj => ?_) (fun q hq => ⟨?_, rfl⟩) (hG.drop hg) (hX'.drop hg) (NetX_M.mpr ((NetX_M.mp hM).drop hg)) (fgt_Bk (M := Mx) ?_)⟩
  · exact (hX'.drop hg).2.1
  · show (shM _ _ _ _).1 q = _
    rw [shM_out (by omega), setI_o (by omega), fgt_o (by omega)]
  · show (shM _ _ _ _).1 0 j = _
    rw [shM_out (by omega), setI_1, if_pos rfl, if_neg (by omega)]
  · show (shM _ _ _ _).1 q = _
    rw [shM_out (by omega), setI_o (by omega)]
  · show (shM _ _ _ _).1 19 = _
    rw [shM_out (by omega), setI_o (by omega)]
