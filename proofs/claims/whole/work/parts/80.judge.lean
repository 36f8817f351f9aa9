/-! told colourings -/
def dst (x y : Nat) : Nat := (x - y) + (y - x)
def apt (x y p r : Nat) : Bool := decide (r ≤ dst x y) && decide (r + dst x y ≤ p)
def aok (G : Gr) (v : Nat → Nat) (p q b : Nat) : Nat → Bool
  | 0 => true
  | l + 1 => aok G v p q b l && (decide (gB G l ≠ b) || apt (v (gA G l)) (v b) p (q * gG G l))
theorem aok_all {G : Gr} {v : Nat → Nat} {p q b : Nat} : ∀ n, aok G v p q b n = true ↔ ∀ l, l < n → gB G l = b → apt (v (gA G l)) (v b) p (q * gG G l) = true
  | 0 => ⟨fun _ l hl => absurd hl (Nat.not_lt_zero _), fun _ => rfl⟩
  | n + 1 => by
    show (aok G v p q b n && _) = true ↔ _
    rw [Bool.and_eq_true, aok_all n, Bool.or_eq_true, decide_eq_true_iff]
    constructor
    · rintro ⟨h1, h2⟩ l hl e
      by_cases c : l = n
      · subst c
        rcases h2 with h2 | h2
        · exact absurd e h2
        · exact h2
      · exact h1 l (by omega) e
    · intro h
      refine ⟨fun l hl e => h l (by omega) e, ?_⟩
      by_cases c : gB G n = b
      · exact Or.inr (h n (by omega) c)
      · exact Or.inl c
theorem aok_ff {G : Gr} {v : Nat → Nat} {p q b : Nat} {l : Nat} (h : aok G v p q b l = false) : ∀ n, l ≤ n → aok G v p q b n = false
  | 0, hn => by have : l = 0 := by omega
                subst this; exact h
  | n + 1, hn => by
    by_cases c : l = n + 1
    · rw [← c]; exact h
    · show (aok G v p q b n && _) = false
      rw [aok_ff h n (by omega), Bool.false_and]
theorem apX {N : Nat} {M : Mem} {X Y : Int64} {x y p r : Nat} (hX : X.toInt = x) (hY : Y.toInt = y) (hx : x < 1000) (hy : y < 1000) (hp : p < 1000) (hr : r < 1000) : f_X7_areApart N X Y (nI p) (nI r) M = some (bB (apt x y p r)) := by
  have e1 : (X - Y).toInt = (x : Int) - y := by rw [jt_sub, hX, hY, bm64 (by omega) (by omega)]
  have ep : (nI p).toInt64.toInt = p := by rw [w_toInt, nI_toInt (by omega)]
  have er : (nI r).toInt64.toInt = r := by rw [w_toInt, nI_toInt (by omega)]
  have z0 : (0 : Int64).toInt = 0 := rfl
  have key : ∀ V : Int64, V.toInt = (dst x y : Nat) → (jn (fun (a34 : Unit) => some (0 : Int32)) (fun (k34 : Unit → Option (Int32)) => if (lg_cmp V (nI r).toInt64) < 0 then (k34 ()) else (if (lg_cmp ((nI p).toInt64 - V) (nI r).toInt64) < 0 then (k34 ()) else (some (1 : Int32))))) = some (bB (apt x y p r)) := by
    intro V hV
    have d1 : dst x y < 2000 := by unfold dst; omega
    have e2 : ((nI p).toInt64 - V).toInt = (p : Int) - (dst x y : Nat) := by rw [jt_sub, ep, hV, bm64 (by omega) (by omega)]
    rw [jn_e]
    unfold apt
    by_cases c1 : r ≤ dst x y
    · have q1 : ¬ lg_cmp V (nI r).toInt64 < 0 := by rw [lg_lt, j_lt, hV, er]; omega
      rw [if_neg q1, decide_eq_true c1, Bool.true_and]
      by_cases c2 : r + dst x y ≤ p
      · rw [if_neg (by rw [lg_lt, j_lt, e2, er]; omega), decide_eq_true c2]; rfl
      · rw [if_pos (by rw [lg_lt, j_lt, e2, er]; omega), decide_eq_false c2]; rfl
    · have q1 : lg_cmp V (nI r).toInt64 < 0 := by rw [lg_lt, j_lt, hV, er]; omega
      rw [if_pos q1, decide_eq_false c1, Bool.false_and]; rfl
  unfold f_X7_areApart f_J9_abs_067f4
  by_cases c : y ≤ x
  · rw [if_pos (by rw [lg_ge, j_le, e1, z0]; omega), bd_s]
    exact key _ (by rw [e1]; unfold dst; omega)
  · rw [if_neg (by rw [lg_ge, j_le, e1, z0]; omega), bd_s]
    exact key _ (by rw [jt_neg, e1, bm64 (by omega) (by omega)]; unfold dst; omega)
theorem farM {N : Nat} {M : Mem} {x y p r : Nat} (hx : x < 1000) (hy : y < 1000) (hp : p < 1000) (hr : r < 1000) (h12 : M.1 0 12 = nI p) : f_X8_isFar N (nI x) (nI y) (nI r) M = some (bB (apt x y p r)) := by
  have key : ∀ V : Int32, V = nI (dst x y) → (jn (fun (a37 : Unit) => some (0 : Int32)) (fun (k37 : Unit → Option (Int32)) => if V < nI r then (k37 ()) else (if ((M.1 0 12) - V) < nI r then (k37 ()) else (some (1 : Int32))))) = some (bB (apt x y p r)) := by
    intro V hV
    have d1 : dst x y < 2000 := by unfold dst; omega
    have e2 : (nI p - nI (dst x y)).toInt = (p : Int) - (dst x y : Nat) := pk_sub_toInt (by omega) (by omega)
    rw [jn_e, hV, h12]
    unfold apt
    by_cases c1 : r ≤ dst x y
    · rw [if_neg (nI_nlt c1 (by omega)), decide_eq_true c1, Bool.true_and]
      by_cases c2 : r + dst x y ≤ p
      · rw [if_neg (by rw [i_lt, e2, nI_toInt (by omega)]; omega), decide_eq_true c2]; rfl
      · rw [if_pos (by rw [i_lt, e2, nI_toInt (by omega)]; omega), decide_eq_false c2]; rfl
    · rw [if_pos (nI_lt (by omega) (by omega)), decide_eq_false c1, Bool.false_and]; rfl
  unfold f_X8_isFar
  rw [jn_if]
  refine key _ ?_
  by_cases c : y ≤ x
  · rw [if_pos (nI_le c (by omega)), pk_sub c]; unfold dst; congr 1; omega
  · rw [if_neg (nI_ge (by omega) (by omega)), pk_sub (by omega)]; unfold dst; congr 1; omega
/-- the reference's places so far -/
theorem fenM {N : Nat} (hN : 2000 ≤ N) {G : Gr} {z : Int32} {ls : Nat → Int64} {M : Mem} {v : Nat → Nat} {p q b : Nat} (hG : GrOk G) (h : NetM M G z ls) (hw : M.1 0 8 = -1) (h12 : M.1 0 12 = nI p) (h13 : M.1 0 13 = nI q) (hp : p ≤ 40) (hq : q ≤ 6) (hb : b < gP G) (hv : ∀ i, i ≤ b → M.1 7 i = nI (v i) ∧ v i < 1000) : f_X8_isFarEnough N (nI b) M = some (bB (aok G v p q b (gN G))) := by
  have hn := hG.2.1
  have hP := hG.1
  unfold f_X8_isFarEnough
  refine lp_cnt (gN G) (fun i a => a = (bB (aok G v p q b i), nI i)) (fun i a rc hi hI => Or.inr ?_) (fun a rc hI => ?_) N 0 _ (by omega) rfl (by omega)
  · subst hI
    refine ⟨(bB (aok G v p q b (i + 1)), nI (i + 1)), rfl, ?_⟩
    obtain ⟨k1, k2, k3, k4⟩ := h.2.2.2.1 i hi
    obtain ⟨o1, o2, o3, o4, o5⟩ := hG.2.2.1 i hi
    have hg := gG_in hG hi
    have hi10 : inb (nI i) 10 := inb_nI (by omega) (by decide)
    have hcl : (nI i).toNatClampNeg = i := nI_clamp (by omega)
    have hclb : (nI b).toNatClampNeg = b := nI_clamp (by omega)
    have b6 : inb (nI b) 6 := inb_nI (by omega) (by decide)
    have a6 : inb (nI (gA G i)) 6 := inb_nI (by omega) (by decide)
    have hcla : (nI (gA G i)).toNatClampNeg = gA G i := nI_clamp (by omega)
    dsimp only
    rw [h.2.1, if_neg (nI_ge hi (by omega))]
    simp only [jn_e, nm_e1, nI_1, ck_t hi10, hcl, k3, k4, ck_t b6, ck_t a6, gapM hG h hw hi, bd_s, hcla, hclb, h13]
    show _ = rc (bB (aok G v p q b i && _), _)
    cases hA : aok G v p q b i with
    | false => rw [if_pos (show bB false = 0 from rfl), Bool.false_and]; rfl
    | true =>
      rw [if_neg (show ¬ bB true = 0 by decide), Bool.true_and]
      by_cases c : gB G i = b
      · have hqg : q * gG G i ≤ 6 * 5 := Nat.mul_le_mul hq hg.2
        rw [if_pos (by rw [c]), (hv b (by omega)).1, (hv (gA G i) (by omega)).1, pk_mul, farM (hv (gA G i) (by omega)).2 (hv b (by omega)).2 (by omega) (by omega) h12, bd_s, decide_eq_false (p := gB G i ≠ b) (fun z => z c), Bool.false_or]
        cases apt (v (gA G i)) (v b) p (q * gG G i) with
        | false => rw [if_pos (show bB false = 0 from rfl)]; rfl
        | true => rw [if_neg (show ¬ bB true = 0 by decide)]; rfl
      · rw [if_neg (nI_ne (by omega) (by omega) c), decide_eq_true (p := gB G i ≠ b) c, Bool.true_or]; rfl
  · subst hI
    dsimp only
    rw [h.2.1, if_pos (nI_le (a := gN G) (b := gN G) (Nat.le_refl _) (by omega)), ck_t (bB_ok _)]
