/-! sums and products of fractions -/
def bB (b : Bool) : Int32 := if b then 1 else 0
def ngB (x : Int64) : Bool := decide (x < 0)
theorem ngB_msb (x : Int64) : ngB x = x.toBitVec.msb := by
  unfold ngB
  rw [BitVec.msb_eq_toInt]
  exact decide_eq_decide.mpr (by rw [j_lt]; rfl)
theorem ngB_xor (x y : Int64) : ngB (x ^^^ y) = (ngB x ^^ ngB y) := by
  rw [ngB_msb, ngB_msb, ngB_msb, Int64.toBitVec_xor, BitVec.msb_xor]
theorem ngB_and (x y : Int64) : ngB (x &&& y) = (ngB x && ngB y) := by
  rw [ngB_msb, ngB_msb, ngB_msb, Int64.toBitVec_and, BitVec.msb_and]
theorem ng_ge (x : Int64) : 0 ≤ lg_cmp x 0 ↔ ngB x = false := by
  rw [lg_ge]
  unfold ngB
  rw [decide_eq_false_iff_not, j_le, j_lt]; omega
theorem if_ng {α : Type} (x : Int64) (a b : α) : (if 0 ≤ lg_cmp x 0 then a else b) = if ngB x then b else a := by
  by_cases c : 0 ≤ lg_cmp x 0
  · rw [if_pos c, (ng_ge x).mp c]; rfl
  · rw [if_neg c]
    have : ngB x = true := by
      cases h : ngB x
      · exact absurd ((ng_ge x).mpr h) c
      · rfl
    rw [this]; rfl
def ovA (a b : Int64) : Bool := (ngB a == ngB b) && (ngB (a + b) != ngB a)
def ovS (a b : Int64) : Bool := (ngB a != ngB b) && (ngB (a - b) != ngB a)
def ovM (a b : Int64) : Bool := if b = -1 then decide (a = -9223372036854775808) else (decide (b ≠ 0) && decide (a * b / b ≠ a))
theorem bB_or (F G : Bool) : (bB F ||| bB G) = bB (F || G) := by cases F <;> cases G <;> decide
theorem bB_or1 (F : Bool) : (bB F ||| 1) = bB (F || true) := bB_or F true
theorem bB_or0 (F : Bool) : (bB F ||| 0) = bB (F || false) := bB_or F false
theorem bB_ok (F : Bool) : bB F = 0 ∨ bB F = 1 := by cases F <;> decide
theorem bB_0 (F : Bool) : bB F = 0 ↔ F = false := by cases F <;> decide
theorem plX {N : Nat} {a b : Int64} {M : Mem} {F : Bool} (h : M.1 33 0 = bB F) : f_X3_plus N a b M = some (a + b, setI M 33 0 (bB (F || ovA a b))) := by
  have e : (if 0 ≤ lg_cmp ((a ^^^ (a + b)) &&& (b ^^^ (a + b))) 0 then (0 : Int32) else 1) = bB (ovA a b) := by
    rw [if_ng, ngB_and, ngB_xor, ngB_xor]
    unfold ovA bB
    cases ngB a <;> cases ngB b <;> cases ngB (a + b) <;> rfl
  unfold f_X3_plus
  rw [nm_e1, jn_if, e, h, bB_or, ck_t (bB_ok _), nm_e1]
theorem lsX {N : Nat} {a b : Int64} {M : Mem} {F : Bool} (h : M.1 33 0 = bB F) : f_X3_less N a b M = some (a - b, setI M 33 0 (bB (F || ovS a b))) := by
  have e : (if 0 ≤ lg_cmp ((a ^^^ b) &&& (a ^^^ (a - b))) 0 then (0 : Int32) else 1) = bB (ovS a b) := by
    rw [if_ng, ngB_and, ngB_xor, ngB_xor]
    unfold ovS bB
    cases ngB a <;> cases ngB b <;> cases ngB (a - b) <;> rfl
  unfold f_X3_less
  rw [nm_e1, jn_if, e, h, bB_or, ck_t (bB_ok _), nm_e1]
theorem tmX {N : Nat} {a b : Int64} {M : Mem} {F : Bool} (h : M.1 33 0 = bB F) : f_X3_times N a b M = some (a * b, setI M 33 0 (bB (F || ovM a b))) := by
  unfold f_X3_times
  simp only [nm_e1, jn_e, h, lg_eq]
  unfold ovM
  by_cases c1 : b = -1
  · rw [if_pos c1, if_pos c1]
    by_cases c2 : a = -9223372036854775808
    · rw [if_pos c2, decide_eq_true c2, bB_or1, ck_t (bB_ok _)]
    · rw [if_neg c2, decide_eq_false c2, bB_or0, ck_t (bB_ok _)]
  · rw [if_neg c1, if_neg c1]
    by_cases c2 : b = 0
    · rw [if_pos c2, decide_eq_false (fun q => q c2), Bool.false_and, bB_or0, ck_t (bB_ok _)]
    · rw [if_neg c2, decide_eq_true c2, Bool.true_and, ck_t c2]
      by_cases c3 : a * b / b = a
      · rw [if_pos c3, decide_eq_false (fun q => q c3), bB_or0, ck_t (bB_ok _)]
      · rw [if_neg c3, decide_eq_true c3, bB_or1, ck_t (bB_ok _)]
theorem ck_tl {α : Type} {p : Prop} [Decidable (True ∨ p)] {x : Option α} : ck (True ∨ p) x = x := ck_t (Or.inl trivial)
theorem ck_tr {α : Type} {p : Prop} [Decidable (p ∨ True)] {x : Option α} : ck (p ∨ True) x = x := ck_t (Or.inr trivial)
theorem bB_ite {α : Type} (F : Bool) (a b : α) : (if bB F = 0 then a else b) = if F then b else a := by cases F <;> rfl
theorem plM {N : Nat} {a b : Int64} {M : Mem} {F : Bool} (h : M.1 0 29 = bB F) : f_X8_plus N a b M = some (a + b, setI M 0 29 (bB (F || ovA a b))) := by
  unfold f_X8_plus
  rw [nm_e1, jn_e, jn_e, h, bB_ite]
  cases F with
  | true =>
    rw [if_pos rfl]
    dsimp only
    rw [ck_t (Or.inr rfl), nm_e1]; rfl
  | false =>
    rw [if_neg (by decide), jn_if, jn_if, if_ng, if_ng, Bool.false_or]
    simp only [jn_e, if_ng]
    unfold ovA bB
    cases ngB a <;> cases ngB b <;> cases ngB (a + b) <;> rfl
theorem mnM {N : Nat} {a b : Int64} {M : Mem} {F : Bool} (h : M.1 0 29 = bB F) : f_X8_minus N a b M = some (a - b, setI M 0 29 (bB (F || ovS a b))) := by
  unfold f_X8_minus
  rw [nm_e1, jn_e, jn_e, h, bB_ite]
  cases F with
  | true =>
    rw [if_pos rfl]
    dsimp only
    rw [ck_t (Or.inr rfl), nm_e1]; rfl
  | false =>
    rw [if_neg (by decide), jn_if, jn_if, if_ng, if_ng, Bool.false_or]
    simp only [jn_e, if_ng]
    unfold ovS bB
    cases ngB a <;> cases ngB b <;> cases ngB (a - b) <;> rfl
theorem tmM {N : Nat} {a b : Int64} {M : Mem} {F : Bool} (h : M.1 0 29 = bB F) : f_X8_times N a b M = some (a * b, setI M 0 29 (bB (F || ovM a b))) := by
  unfold f_X8_times
  rw [nm_e1, jn_e, jn_e, h, bB_ite]
  cases F with
  | true =>
    rw [if_pos rfl]
    dsimp only
    rw [ck_t (Or.inr rfl), nm_e1]; rfl
  | false =>
    rw [if_neg (by decide), Bool.false_or]
    simp only [jn_e, lg_eq, nm_e1]
    simp only [ck_tl, ck_tr]
    have o1 : b = -1 → ovM a b = decide (a = -9223372036854775808) := fun q => if_pos q
    have o2 : ¬ b = -1 → ovM a b = (decide (b ≠ 0) && decide (a * b / b ≠ a)) := fun q => if_neg q
    by_cases c0 : a = -1 ∧ b = -9223372036854775808
    · rw [if_pos c0.1, if_pos c0.2, c0.1, c0.2]; rfl
    · have e1 : ∀ (o o' : Option (Int64 × Mem)), (if a = -1 then (if b = -9223372036854775808 then o else o') else o') = o' := by
        intro o o'
        by_cases h1 : a = -1
        · rw [if_pos h1, if_neg (fun q => c0 ⟨h1, q⟩)]
        · rw [if_neg h1]
      rw [e1]
      by_cases c1 : b = -1
      · rw [o1 c1, if_pos c1]
        by_cases c2 : a = -9223372036854775808
        · rw [if_pos c2, decide_eq_true c2]; rfl
        · rw [if_neg c2, decide_eq_false c2]
          by_cases c3 : b = 0
          · rw [if_pos c3]; rfl
          · rw [if_neg c3, if_pos c1]; rfl
      · rw [o2 c1, if_neg c1]
        by_cases c3 : b = 0
        · rw [if_pos c3, decide_eq_false (p := b ≠ 0) (fun q => q c3)]; rfl
        · rw [if_neg c3, if_neg c1, ck_t c3, decide_eq_true (p := b ≠ 0) c3, Bool.true_and]
          by_cases c4 : a * b / b = a
          · rw [if_pos c4, decide_eq_false (p := a * b / b ≠ a) (fun q => q c4)]; rfl
          · rw [if_neg c4, decide_eq_true (p := a * b / b ≠ a) c4]; rfl
/-- the flags of what is too great -/
theorem Cmp_flag {Mx Mm : Mem} {G : Gr} {z : Int32} {ls : Nat → Int64} (hc : Cmp G z ls Mx Mm) (v w : Int32) : Cmp G z ls (setI Mx 33 0 v) (setI Mm 0 29 w) :=
  Cmp_hol hc (fun a h1 h2 => ⟨setI_o h2, rfl⟩) (fun a h1 h2 => ⟨setI_o h1, rfl⟩) (fun j hj => by rw [setI_1, if_pos rfl, if_neg hj]) (fun q hq => (hc.2.2.2.2.2.2.1 q hq).ag ⟨setI_o (by omega), rfl⟩ (fun a h1 h2 => ⟨by rw [setI_o (by omega)], rfl⟩))
theorem j_pos' {x : Int64} (h : 0 < x) : 0 < x.toInt := (j_lt _ _).mp h
/-- a product of numbers that aren't 0 isn't 0, where it isn't too great -/
theorem mul_n0 {a b : Int64} (ha : a ≠ 0) (hb : b ≠ 0) (h : ovM a b = false) : a * b ≠ 0 := by
  intro e
  unfold ovM at h
  by_cases c : b = -1
  · rw [if_pos c] at h
    have h1 := (decide_eq_false_iff_not.mp h)
    rw [c] at e
    have e2 : (a * -1).toInt = 0 := (j0 _).mp e
    have em : (-1 : Int64).toInt = -1 := rfl
    have h2 := jt_lo a
    have h3 := jt_hi a
    have h4 : a.toInt ≠ -(2 : Int) ^ 63 := fun q => h1 ((j_eq _ _).mpr (by rw [q, minJ]))
    rw [jt_mul, em, show a.toInt * -1 = -a.toInt by omega, bm64 (by omega) (by omega)] at e2
    exact ha ((j0 a).mpr (by omega))
  · rw [if_neg c, decide_eq_true (p := b ≠ 0) hb, Bool.true_and] at h
    have h1 := Decidable.not_not.mp (decide_eq_false_iff_not.mp h)
    rw [e] at h1
    have h2 : (0 / b).toInt = 0 := by
      rw [jt_div, show (0 : Int64).toInt = 0 from rfl, Int.zero_tdiv]; rfl
    rw [h1] at h2
    exact ha ((j0 a).mpr h2)
theorem add_n0 {a b : Int64} (ha : 0 < a) (hb : 0 < b) (h : ovA a b = false) : a + b ≠ 0 := by
  intro e
  have h1 := j_pos' ha
  have h2 := j_pos' hb
  have h3 := jt_hi a
  have h4 := jt_hi b
  have e2 : (a + b).toInt = 0 := (j0 _).mp e
  rw [jt_add] at e2
  by_cases c : a.toInt + b.toInt < 2 ^ 63
  · rw [bm64 (by omega) c] at e2; omega
  · have : (a.toInt + b.toInt).bmod (2 ^ 64) = a.toInt + b.toInt - 2 ^ 64 := by
      rw [Int.bmod_def, Int.emod_eq_of_lt (by omega) (by omega), if_neg (by omega)]; rfl
    omega
/-- both refusals -/
theorem refF {N : Nat} {Mx Mm : Mem} (hH : Hol Mx Mm) (x y : Int32) : ∃ r, f_X7_refusalOfFractions N x y Mx = some r ∧ f_X8_wrongHolds N x y Mm = some r ∧ (r = 0 ∧ (∃ h g, h ≤ 3 ∧ g ≤ 3 ∧ x = nI h ∧ y = nI g ∧ Mm.1 11 h = 1 ∧ Mm.1 11 g = 1) ∨ r < 0) := by
  unfold f_X7_refusalOfFractions f_X8_wrongHolds
  rw [isHX, isHM, bd_s, bd_s, ite_bI, ite_bI]
  by_cases hv : 0 ≤ x ∧ x ≤ 3
  rotate_left
  · rw [if_neg hv, if_neg hv]; exact ⟨_, rfl, rfl, Or.inr (by decide)⟩
  rw [if_pos hv, if_pos hv, isHX, isHM, bd_s, bd_s, ite_bI, ite_bI]
  by_cases hw : 0 ≤ y ∧ y ≤ 3
  rotate_left
  · rw [if_neg hw, if_neg hw]; exact ⟨_, rfl, rfl, Or.inr (by decide)⟩
  rw [if_pos hw, if_pos hw]
  obtain ⟨h, hh, rfl⟩ := nI_of_le 3 (by decide) hv
  obtain ⟨g, hg, rfl⟩ := nI_of_le 3 (by decide) hw
  have ih : inb (nI h) 4 := inb_nI (by omega) (by decide)
  have ig : inb (nI g) 4 := inb_nI (by omega) (by decide)
  have ch : (nI h).toNatClampNeg = h := nI_clamp (by omega)
  have cg : (nI g).toNatClampNeg = g := nI_clamp (by omega)
  have eh : Mx.1 (holdC h) 0 = Mm.1 11 h := (hH h (by omega)).1
  have eg : Mx.1 (holdC g) 0 = Mm.1 11 g := (hH g (by omega)).1
  simp only [ck_t ih, ck_t ig, ch, cg, eh, eg, jn_e]
  by_cases c1 : Mm.1 11 h = 0
  · rw [if_pos c1]; exact ⟨_, rfl, rfl, Or.inr (by decide)⟩
  rw [if_neg c1]
  by_cases c2 : Mm.1 11 g = 0
  · rw [if_pos c2]; exact ⟨_, rfl, rfl, Or.inr (by decide)⟩
  rw [if_neg c2]
  by_cases c3 : Mm.1 11 h = 1
  · rw [if_pos c3]
    by_cases c4 : Mm.1 11 g = 1
    · rw [if_pos c4]; exact ⟨_, rfl, rfl, Or.inl ⟨rfl, h, g, hh, hg, rfl, rfl, c3, c4⟩⟩
    · rw [if_neg c4]; exact ⟨_, rfl, rfl, Or.inr (by decide)⟩
  · rw [if_neg c3]; exact ⟨_, rfl, rfl, Or.inr (by decide)⟩
theorem s_28 {N : Nat} (hN : 2000 ≤ N) : St_28 N Rel := by
  intro Mx Mm a0 a1 a2 h
  apply rr_st
  obtain ⟨G, z, ls, hc⟩ := id h
  have hH := hc.2.2.2.2.2.2.1
  unfold f_X7_does f_X8_does
  rw [within_e, inI_e N a1 0 4 Mm (by decide) (by decide), bd_s, bd_s, ite_bI, jn_e (α := Int32), ite_bI]
  by_cases hv : 0 ≤ a1 ∧ a1 ≤ 4
  rotate_left
  · rw [if_neg hv, if_neg hv]
    dsimp only
    rw [if_neg (by decide)]; exact rr_ret ⟨rfl, h⟩
  rw [if_pos hv, if_pos hv]
  obtain ⟨r, r1, r2, r3⟩ := refF (N := N) hH a0 a2
  rw [r1, r2, bd_s, bd_s]
  rcases r3 with ⟨rfl, k, g, hk, hg, rfl, rfl, ek, eg⟩ | r3
  rotate_left
  · have r4 : ¬ 0 ≤ r := by rw [i_lt] at r3; rw [i_le]; omega
    have r5 : ¬ r = 0 := fun q => by rw [q] at r3; exact absurd r3 (by decide)
    rw [if_neg r4]
    dsimp only
    rw [if_neg r5]; exact rr_ret ⟨rfl, h⟩
  rw [if_pos (by decide)]
  dsimp only
  rw [if_pos rfl]
  have ih : inb (nI k) 4 := inb_nI (by omega) (by decide)
  have ig : inb (nI g) 4 := inb_nI (by omega) (by decide)
  have ch : (nI k).toNatClampNeg = k := nI_clamp (by omega)
  have cg : (nI g).toNatClampNeg = g := nI_clamp (by omega)
  obtain ⟨x1, x2, x3⟩ := (hH k (by omega)).is1 ek
  obtain ⟨y1, y2, y3⟩ := (hH g (by omega)).is1 eg
  have x1 : Mx.2 (holdC k) 1 = Mm.2 15 k := x1
  have x2 : Mx.2 (holdC k) 2 = Mm.2 16 k := x2
  have y1 : Mx.2 (holdC g) 1 = Mm.2 15 g := y1
  have y2 : Mx.2 (holdC g) 2 = Mm.2 16 g := y2
  simp only [ck_t ih, ck_t ig, nm_e1, ch, cg, y1]
  generalize ea : Mm.2 15 k = a at *
  generalize eb : Mm.2 16 k = b at *
  generalize ecc : Mm.2 15 g = c at *
  generalize edd : Mm.2 16 g = d at *
  have b0 : b ≠ 0 := (j_pos x3).1
  have d0 : d ≠ 0 := (j_pos y3).1
  -- what comes of two numbers and a flag
  have fin : ∀ (F : Bool) (u w : Int64), (F = false → w ≠ 0) → RR PR (if (setI Mx 33 0 (bB F)).1 33 0 = 0 then bd (f_X0_takeFraction N (holdC k) u w (setI Mx 33 0 (bB F))) (fun w16 => some (w16.1, w16.2)) else some ((-5 : Int32), setI Mx 33 0 (bB F))) (if (setI Mm 0 29 (bB F)).1 0 29 = 0 then bd (f_X8_gets N (nI k) u w (setI Mm 0 29 (bB F))) (fun w10 => some (w10.1, w10.2)) else some ((-5 : Int32), setI Mm 0 29 (bB F))) := by
    intro F u w hw
    have q1 : (setI Mx 33 0 (bB F)).1 33 0 = bB F := by simp [setI_1]
    have q2 : (setI Mm 0 29 (bB F)).1 0 29 = bB F := by simp [setI_1]
    have hc' := Cmp_flag hc (bB F) (bB F)
    rw [q1, q2]
    refine rr_ite Iff.rfl (fun hF => ?_) (fun _ => rr_ret ⟨rfl, G, z, ls, hc'⟩)
    refine rr_bd (Q := PR) (frac_rr hN hk u w (hw ((bB_0 F).mp hF)) _ _ PR ⟨rfl, G, z, ls, hc'⟩ (fun a b hb => ⟨rfl, G, z, ls, Cmp_put hc' hk a b hb⟩)) (fun a b hab => rr_ret hab)
  have z1 : (setI Mx 33 0 (0 : Int32)).1 33 0 = bB false := by simp [setI_1]; rfl
  have z2 : (setI Mm 0 29 (0 : Int32)).1 0 29 = bB false := by simp [setI_1]; rfl
  have f1 : ∀ F, (setI Mx 33 0 (bB F)).1 33 0 = bB F := fun F => by simp [setI_1]
  have f2 : ∀ F, (setI Mm 0 29 (bB F)).1 0 29 = bB F := fun F => by simp [setI_1]
  obtain ⟨w, hw, rfl⟩ := nI_of_le 4 (by decide) hv
  unfold f_X3_aboveOf f_X3_belowOf
  have sx : ∀ v : Int32, (setI Mx 33 0 v).2 = Mx.2 := fun v => rfl
  rcases (show w = 0 ∨ w = 1 ∨ w = 2 ∨ w = 3 ∨ w = 4 by omega) with rfl | rfl | rfl | rfl | rfl
  · simp only [jn_e, if_neg (show ¬ nI 0 = (1 : Int32) by decide), if_neg (show ¬ nI 0 = (2 : Int32) by decide), if_neg (show ¬ nI 0 = (3 : Int32) by decide), if_neg (show ¬ nI 0 = (4 : Int32) by decide), if_pos (show nI 0 = (0 : Int32) from rfl), ck_t (show (0 : Int32) = 0 ∨ (0 : Int32) = 1 from Or.inl rfl), nm_e1, tmX z1, tmM z2, plX z1, plM z2, tmX (f1 _), tmM (f2 _), plX (f1 _), plM (f2 _), lsX (f1 _), mnM (f2 _), bd_s, setI_twice, sx, x1, x2, y1, y2]
    exact fin _ _ _ (fun hF => by
      have h1 := Bool.or_eq_false_iff.mp hF
      exact mul_n0 b0 d0 h1.2)
  · simp only [jn_e, if_neg (show ¬ nI 1 = (0 : Int32) by decide), if_neg (show ¬ nI 1 = (2 : Int32) by decide), if_neg (show ¬ nI 1 = (3 : Int32) by decide), if_neg (show ¬ nI 1 = (4 : Int32) by decide), if_pos (show nI 1 = (1 : Int32) from rfl), ck_t (show (0 : Int32) = 0 ∨ (0 : Int32) = 1 from Or.inl rfl), nm_e1, tmX z1, tmM z2, plX z1, plM z2, tmX (f1 _), tmM (f2 _), plX (f1 _), plM (f2 _), lsX (f1 _), mnM (f2 _), bd_s, setI_twice, sx, x1, x2, y1, y2]
    exact fin _ _ _ (fun hF => by
      have h1 := Bool.or_eq_false_iff.mp hF
      exact mul_n0 b0 d0 h1.2)
  · simp only [jn_e, if_neg (show ¬ nI 2 = (0 : Int32) by decide), if_neg (show ¬ nI 2 = (1 : Int32) by decide), if_neg (show ¬ nI 2 = (3 : Int32) by decide), if_neg (show ¬ nI 2 = (4 : Int32) by decide), if_pos (show nI 2 = (2 : Int32) from rfl), ck_t (show (0 : Int32) = 0 ∨ (0 : Int32) = 1 from Or.inl rfl), nm_e1, tmX z1, tmM z2, plX z1, plM z2, tmX (f1 _), tmM (f2 _), plX (f1 _), plM (f2 _), lsX (f1 _), mnM (f2 _), bd_s, setI_twice, sx, x1, x2, y1, y2]
    exact fin _ _ _ (fun hF => by
      have h1 := Bool.or_eq_false_iff.mp hF
      exact mul_n0 b0 d0 h1.2)
  · simp only [jn_e, if_neg (show ¬ nI 3 = (0 : Int32) by decide), if_neg (show ¬ nI 3 = (1 : Int32) by decide), if_neg (show ¬ nI 3 = (2 : Int32) by decide), if_neg (show ¬ nI 3 = (4 : Int32) by decide), if_pos (show nI 3 = (3 : Int32) from rfl), ck_t (show (0 : Int32) = 0 ∨ (0 : Int32) = 1 from Or.inl rfl), nm_e1, tmX z1, tmM z2, plX z1, plM z2, tmX (f1 _), tmM (f2 _), plX (f1 _), plM (f2 _), lsX (f1 _), mnM (f2 _), bd_s, setI_twice, sx, x1, x2, y1, y2]
    refine rr_ite Iff.rfl (fun _ => rr_ret ⟨rfl, h⟩) (fun hc0 => ?_)
    have c0 : c ≠ 0 := fun q => hc0 ((lg_eq _ _).mpr q)
    exact fin _ _ _ (fun hF => by
      have h1 := Bool.or_eq_false_iff.mp hF
      exact mul_n0 b0 c0 h1.2)
  · simp only [jn_e, if_neg (show ¬ nI 4 = (0 : Int32) by decide), if_neg (show ¬ nI 4 = (1 : Int32) by decide), if_neg (show ¬ nI 4 = (2 : Int32) by decide), if_neg (show ¬ nI 4 = (3 : Int32) by decide), if_pos (show nI 4 = (4 : Int32) from rfl), ck_t (show (0 : Int32) = 0 ∨ (0 : Int32) = 1 from Or.inl rfl), nm_e1, tmX z1, tmM z2, plX z1, plM z2, tmX (f1 _), tmM (f2 _), plX (f1 _), plM (f2 _), lsX (f1 _), mnM (f2 _), bd_s, setI_twice, sx, x1, x2, y1, y2]
    exact fin _ _ _ (fun hF => by
      have h1 := Bool.or_eq_false_iff.mp hF
      exact add_n0 x3 y3 h1.2)
