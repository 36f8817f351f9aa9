/-! a point gets a place: what the others may have then -/
def nbk (G : Gr) (p q k x i y : Nat) : Nat → Bool
  | 0 => true
  | l + 1 => nbk G p q k x i y l && (!(inc G l k && decide (oth G l k = i)) || apt x y p (q * gG G l))
theorem nbk_all {G : Gr} {p q k x i y : Nat} : ∀ n, nbk G p q k x i y n = true ↔ ∀ l, l < n → inc G l k = true → oth G l k = i → apt x y p (q * gG G l) = true
  | 0 => ⟨fun _ l hl => absurd hl (Nat.not_lt_zero _), fun _ => rfl⟩
  | n + 1 => by
    show (nbk G p q k x i y n && _) = true ↔ _
    rw [Bool.and_eq_true, nbk_all n, Bool.or_eq_true]
    constructor
    · rintro ⟨h1, h2⟩ l hl e1 e2
      by_cases c : l = n
      · subst c
        rcases h2 with h2 | h2
        · rw [e1, decide_eq_true e2] at h2; exact absurd h2 (by decide)
        · exact h2
      · exact h1 l (by omega) e1 e2
    · intro h
      refine ⟨fun l hl e => h l (by omega) e, ?_⟩
      by_cases c : inc G n k = true ∧ oth G n k = i
      · exact Or.inr (h n (by omega) c.1 c.2)
      · left
        cases c1 : inc G n k
        · rfl
        · rw [decide_eq_false (fun e => c ⟨c1, e⟩)]; rfl
/-- what layer a has -/
def Lay (M : Mem) (G : Gr) (p a : Nat) (mm : Nat → Nat) : Prop := ∀ i, i < gP G → M.2 6 (6 * a + i) = lN (mm i) ∧ mm i < 2 ^ p
def MyA (a : Nat) (M A : Mem) : Prop := A.1 = M.1 ∧ (∀ c, c ≠ 6 → A.2 c = M.2 c) ∧ ∀ j, j < 6 * (a + 1) → A.2 6 j = M.2 6 j
theorem MyA.rf {a : Nat} {M : Mem} : MyA a M M := ⟨rfl, fun _ _ => rfl, fun _ _ => rfl⟩
theorem MyA.tr {a : Nat} {M A B : Mem} (h : MyA a M A) (h2 : MyA a A B) : MyA a M B := ⟨h2.1.trans h.1, fun c hc => (h2.2.1 c hc).trans (h.2.1 c hc), fun j hj => (h2.2.2 j hj).trans (h.2.2 j hj)⟩
theorem MyA.up {a b : Nat} {M A : Mem} (h : MyA a M A) (hb : b ≤ a) : MyA b M A := ⟨h.1, h.2.1, fun j hj => h.2.2 j (by omega)⟩
theorem MyA.net {a : Nat} {M A : Mem} {G : Gr} {z : Int32} {ls : Nat → Int64} (h : MyA a M A) (hM : NetM M G z ls) : NetM A G z ls := hM.ag (fun j _ => by rw [h.1]) (fun c h1 h2 => ⟨by rw [h.1], h.2.1 c (by omega)⟩)
theorem MyA.lay {a b : Nat} {M A : Mem} {G : Gr} {p : Nat} {mm : Nat → Nat} (hG : GrOk G) (h : MyA a M A) (hL : Lay M G p b mm) (hb : b ≤ a) : Lay A G p b mm := fun i hi => by
  have := hG.1
  rw [h.2.2 _ (by omega)]; exact hL i hi
theorem MyA.set {a j : Nat} {M : Mem} {v : Int64} (hj : 6 * (a + 1) ≤ j) : MyA a M (setJ M 6 j v) := ⟨rfl, fun c hc => setJ_o hc, fun i hi => by rw [setJ_2, if_pos rfl, if_neg (by omega)]⟩
theorem ix6 (a i : Nat) : (6 : Int32) * (nI a + 1) + nI i = nI (6 * (a + 1) + i) := by
  rw [nI_1, show (6 : Int32) = nI 6 from rfl, pk_mul, nI_add]
theorem ix6' (a i : Nat) : (6 : Int32) * nI a + nI i = nI (6 * a + i) := by
  rw [show (6 : Int32) = nI 6 from rfl, pk_mul, nI_add]
/-- what is left of the layer, so far -/
def NwS (G : Gr) (p q k x : Nat) (mm nw : Nat → Nat) (n : Nat) : Prop := ∀ i, i < gP G → nw i < 2 ^ p ∧ (i = k → nw i = 2 ^ x) ∧ (i ≠ k → ∀ y, (nw i).testBit y = ((mm i).testBit y && nbk G p q k x i y n))
theorem narM {N : Nat} (hN : 2000 ≤ N) {G : Gr} {z : Int32} {ls : Nat → Int64} {M : Mem} (hG : GrOk G) (h : NetM M G z ls) (hw : M.1 0 8 = -1) {p q a k x : Nat} {mm : Nat → Nat} (hp : p ≤ 40) (hq : q ≤ 6) (h12 : M.1 0 12 = nI p) (h13 : M.1 0 13 = nI q) (ha : a ≤ 5) (hk : k < gP G) (hx : x < p) (hL : Lay M G p a mm) : ∃ b M' nw, f_X8_narrows N (nI a) (nI k) (nI x) M = some (bB b, M') ∧ MyA a M M' ∧ Lay M' G p (a + 1) nw ∧ NwS G p q k x mm nw (gN G) ∧ (b = true ↔ ∀ l, l < gN G → inc G l k = true → nw (oth G l k) ≠ 0) := by
  have hn := hG.2.1
  have hP := hG.1
  have h2p : 2 ^ p ≤ 2 ^ 40 := Nat.pow_le_pow_right (by omega) hp
  have h2x : 2 ^ x < 2 ^ p := Nat.pow_lt_pow_right (by omega) hx
  unfold f_X8_narrows
  refine lp_S (S := fun o => ∃ b M' nw, o = some (bB b, M') ∧ MyA a M M' ∧ Lay M' G p (a + 1) nw ∧ NwS G p q k x mm nw (gN G) ∧ (b = true ↔ ∀ l, l < gN G → inc G l k = true → nw (oth G l k) ≠ 0)) (fun n (c : Int32 × Mem) => ∃ i A, i + n = gP G ∧ c = (nI i, A) ∧ MyA a M A ∧ ∀ j, j < i → A.2 6 (6 * (a + 1) + j) = lN (mm j)) (fun n c rc hJ => ?_) N (gP G) _ ⟨0, M, by omega, rfl, MyA.rf, fun j hj => absurd hj (Nat.not_lt_zero _)⟩ (by omega)
  obtain ⟨i, A, hi, rfl, hA, hc⟩ := hJ
  have hMA := hA.net h
  dsimp only
  rw [hMA.1]
  cases n with
  | succ n =>
    right
    have hiP : i < gP G := by omega
    rw [if_neg (nI_ge hiP (by omega)), ix6, ix6', ck_t (inb_nI (by omega) (by decide)), ck_t (inb_nI (by omega) (by decide)), nm_e1, nm_e1, nI_1, nI_clamp (by omega), nI_clamp (by omega), hA.2.2 _ (by omega), (hL i hiP).1]
    refine ⟨n, _, by omega, ⟨i + 1, _, by omega, rfl, hA.tr (MyA.set (by omega)), fun j hj => ?_⟩, rfl⟩
    rw [setJ_2, if_pos rfl]
    by_cases e : j = i
    · rw [if_pos (by rw [e]), e]
    · rw [if_neg (by omega)]; exact hc j (by omega)
  | zero =>
    left
    have ei : i = gP G := by omega
    subst ei
    have hone : (1 : Int64) <<< ((nI x).toInt64 &&& 63) = lN (2 ^ x) := by
      have := wb_shl 1 (k := x) (by omega)
      rw [Nat.one_mul] at this
      exact this
    rw [if_pos (nI_le (a := gP G) (b := gP G) (Nat.le_refl _) (by omega)), ix6, ck_t (inb_nI (by omega) (by decide)), nm_e1, nI_clamp (by omega), hone]
    have hB0 : MyA a M (setJ A 6 (6 * (a + 1) + k) (lN (2 ^ x))) := hA.tr (MyA.set (by omega))
    have hL0 : Lay (setJ A 6 (6 * (a + 1) + k) (lN (2 ^ x))) G p (a + 1) (upv mm k (2 ^ x)) := fun i hi => by
      rw [setJ_2, if_pos rfl]
      by_cases e : i = k
      · rw [if_pos (by rw [e]), e, upv_s]; exact ⟨rfl, h2x⟩
      · rw [if_neg (by omega), upv_o e]; exact ⟨hc i hi, (hL i hi).2⟩
    have hS0 : NwS G p q k x mm (upv mm k (2 ^ x)) 0 := fun i hi => ⟨(hL0 i hi).2, fun e => by rw [e, upv_s], fun e y => by rw [upv_o e]; show _ = (_ && true); rw [Bool.and_true]⟩
    generalize setJ A 6 (6 * (a + 1) + k) (lN (2 ^ x)) = B0 at hB0 hL0 ⊢
    refine lp_S (S := fun o => ∃ b M' nw, o = some (bB b, M') ∧ MyA a M M' ∧ Lay M' G p (a + 1) nw ∧ NwS G p q k x mm nw (gN G) ∧ (b = true ↔ ∀ l, l < gN G → inc G l k = true → nw (oth G l k) ≠ 0)) (fun r (c : Int32 × Int32 × Mem) => ∃ l B nw b, l + r = gN G ∧ c = (bB b, nI l, B) ∧ MyA a M B ∧ Lay B G p (a + 1) nw ∧ NwS G p q k x mm nw l ∧ (b = true ↔ ∀ j, j < l → inc G j k = true → nw (oth G j k) ≠ 0)) (fun r c rc hJ => ?_) N (gN G) _ ⟨0, B0, _, true, by omega, rfl, hB0, hL0, hS0, fun _ j hj => absurd hj (Nat.not_lt_zero _), fun _ => rfl⟩ (by omega)
    obtain ⟨l, B, nw, b, hr, rfl, hB, hLB, hS, hb⟩ := hJ
    have hMB := hB.net h
    dsimp only
    rw [hMB.2.1]
    cases r with
    | zero =>
      left
      have e : l = gN G := by omega
      subst e
      rw [if_pos (nI_le (a := gN G) (b := gN G) (Nat.le_refl _) (by omega)), ck_t (by cases b <;> decide)]
      exact ⟨b, B, nw, rfl, hB, hLB, hS, hb⟩
    | succ r =>
      right
      have hl : l < gN G := by omega
      have l10 : inb (nI l) 10 := inb_nI (by omega) (by decide)
      have cl : (nI l).toNatClampNeg = l := nI_clamp (by omega)
      obtain ⟨-, -, k3, k4⟩ := hMB.2.2.2.1 l hl
      obtain ⟨-, -, -, o4, o5⟩ := hG.2.2.1 l hl
      have hg := gG_in hG hl
      have hqg : q * gG G l ≤ 6 * 5 := Nat.mul_le_mul hq hg.2
      have b12 : B.1 0 12 = nI p := by rw [hB.1]; exact h12
      have b13 : B.1 0 13 = nI q := by rw [hB.1]; exact h13
      have b8 : B.1 0 8 = -1 := by rw [hB.1]; exact hw
      rw [if_neg (nI_ge hl (by omega))]
      simp only [ck_t l10, cl, k3, k4, nm_e1, nI_1, jn_e]
      by_cases ci : inc G l k = true
      · have hoth : oth G l k < gP G ∧ oth G l k ≠ k := by
          have := oth_ne hG hl ci
          refine ⟨?_, this.1⟩
          unfold oth; split <;> omega
        obtain ⟨w, w1, w2, w3⟩ := apaM (N := N) (M := B) (p := p) (x := x) (r := q * gG G l) hN b12 hp (by omega) (by omega)
        obtain ⟨n1, n2⟩ := hLB (oth G l k) hoth.1
        have o42 : inb (nI (6 * (a + 1) + oth G l k)) 42 := inb_nI (by omega) (by decide)
        have co : (nI (6 * (a + 1) + oth G l k)).toNatClampNeg = 6 * (a + 1) + oth G l k := nI_clamp (by omega)
        obtain ⟨C, hC⟩ : ∃ C, C = setJ B 6 (6 * (a + 1) + oth G l k) (lN (nw (oth G l k) &&& w)) := ⟨_, rfl⟩
        have hlt : nw (oth G l k) &&& w < 2 ^ p := Nat.lt_of_le_of_lt Nat.and_le_left n2
        have cval : C.2 6 (6 * (a + 1) + oth G l k) = lN (nw (oth G l k) &&& w) := by rw [hC, setJ_2, if_pos rfl, if_pos rfl]
        have hLC : Lay C G p (a + 1) (upv nw (oth G l k) (nw (oth G l k) &&& w)) := fun i hi => by
          rw [hC, setJ_2, if_pos rfl]
          by_cases e : i = oth G l k
          · rw [if_pos (by rw [e]), e, upv_s]; exact ⟨rfl, hlt⟩
          · rw [if_neg (by omega), upv_o e]; exact hLB i hi
        have hSC : NwS G p q k x mm (upv nw (oth G l k) (nw (oth G l k) &&& w)) (l + 1) := fun i hi => by
          refine ⟨(hLC i hi).2, fun e => ?_, fun e y => ?_⟩
          · rw [upv_o (by rw [e]; exact fun q => hoth.2 q.symm)]; exact (hS i hi).2.1 e
          · have hst : nbk G p q k x i y (l + 1) = (nbk G p q k x i y l && (!(inc G l k && decide (oth G l k = i)) || apt x y p (q * gG G l))) := rfl
            rw [hst]
            by_cases e2 : i = oth G l k
            · subst e2
              rw [upv_s, Nat.testBit_and, (hS _ hoth.1).2.2 hoth.2 y, w3 y, ci, decide_eq_true rfl]
              by_cases hy : y < p
              · rw [decide_eq_true hy, Bool.true_and, Bool.and_assoc]; rfl
              · have := tb_hi (hL _ hoth.1).2 (show p ≤ y by omega)
                rw [this]; rfl
            · rw [upv_o e2, (hS i hi).2.2 e y, decide_eq_false (fun z => e2 z.symm), Bool.and_false, Bool.not_false, Bool.true_or, Bool.and_true]
        have hMC : MyA a M C := hB.tr (by rw [hC]; exact MyA.set (by omega))
        have hoo : ∀ j, j < l → inc G j k = true → oth G j k ≠ oth G l k := fun j hj cj e => by
          have oj := (hG.2.2.1 j (by omega)).2.2.2.1
          have h1 := cj
          have h2 := ci
          unfold inc at h1 h2
          unfold oth at e
          simp at h1 h2
          have : j = l := hG.2.2.2 j l (by omega) hl (by split at e <;> split at e <;> omega) (by split at e <;> split at e <;> omega)
          omega
        have go : ∀ b', (b' = true ↔ b = true ∧ nw (oth G l k) &&& w ≠ 0) → ∃ m c, m < r + 1 ∧ (∃ l B nw b, l + m = gN G ∧ c = (bB b, nI l, B) ∧ MyA a M B ∧ Lay B G p (a + 1) nw ∧ NwS G p q k x mm nw l ∧ (b = true ↔ ∀ j, j < l → inc G j k = true → nw (oth G j k) ≠ 0)) ∧ rc (bB b', nI (l + 1), C) = rc c := fun b' hb' => by
          refine ⟨r, _, by omega, ⟨l + 1, C, _, b', by omega, rfl, hMC, hLC, hSC, ?_⟩, rfl⟩
          rw [hb', hb]
          constructor
          · rintro ⟨q1, q2⟩ j hj cj
            by_cases e : j = l
            · rw [e, upv_s]; exact q2
            · rw [upv_o (hoo j (by omega) cj)]; exact q1 j (by omega) cj
          · intro q1
            refine ⟨fun j hj cj => ?_, ?_⟩
            · have := q1 j (by omega) cj
              rw [upv_o (hoo j (by omega) cj)] at this
              exact this
            · have := q1 l (by omega) ci
              rw [upv_s] at this
              exact this
        have body : ∀ o, o = (ck (inb ((6 : Int32) * nI (a + 1) + nI (oth G l k)) 42) (bd (f_X8_gap N (nI l) B) (fun v3 => bd (f_X8_apart N (nI x) ((B.1 0 13) * v3) B) (fun v5 => ck (inb ((6 : Int32) * nI (a + 1) + nI (oth G l k)) 42) (if bB b = 0 then rc (0, nI (l + 1), setJ B 6 ((6 : Int32) * nI (a + 1) + nI (oth G l k)).toNatClampNeg ((B.2 6 ((6 : Int32) * nI (a + 1) + nI (oth G l k)).toNatClampNeg) &&& v5)) else (ck (inb ((6 : Int32) * nI (a + 1) + nI (oth G l k)) 42) (if (lg_cmp ((setJ B 6 ((6 : Int32) * nI (a + 1) + nI (oth G l k)).toNatClampNeg ((B.2 6 ((6 : Int32) * nI (a + 1) + nI (oth G l k)).toNatClampNeg) &&& v5)).2 6 ((6 : Int32) * nI (a + 1) + nI (oth G l k)).toNatClampNeg) (0 : Int64)) = 0 then rc (0, nI (l + 1), setJ B 6 ((6 : Int32) * nI (a + 1) + nI (oth G l k)).toNatClampNeg ((B.2 6 ((6 : Int32) * nI (a + 1) + nI (oth G l k)).toNatClampNeg) &&& v5)) else rc (1, nI (l + 1), setJ B 6 ((6 : Int32) * nI (a + 1) + nI (oth G l k)).toNatClampNeg ((B.2 6 ((6 : Int32) * nI (a + 1) + nI (oth G l k)).toNatClampNeg) &&& v5))))))))) → ∃ m c, m < r + 1 ∧ (∃ l B nw b, l + m = gN G ∧ c = (bB b, nI l, B) ∧ MyA a M B ∧ Lay B G p (a + 1) nw ∧ NwS G p q k x mm nw l ∧ (b = true ↔ ∀ j, j < l → inc G j k = true → nw (oth G j k) ≠ 0)) ∧ o = rc c := by
          intro o ho
          rw [ix6', ck_t o42, gapM hG hMB b8 hl, bd_s, b13, pk_mul, w2, bd_s, ck_t o42, ck_t o42, co, n1, wb_and (by omega) (by omega), ← hC, cval] at ho
          rw [ho]
          cases hbb : b
          · rw [if_pos (show bB false = 0 from rfl)]
            exact go false ⟨fun q => absurd q (by decide), fun q => by rw [hbb] at q; exact q.1⟩
          · rw [if_neg (show ¬ bB true = 0 by decide)]
            by_cases e : nw (oth G l k) &&& w = 0
            · rw [if_pos ((l0 (by omega)).mpr e)]
              exact go false ⟨fun q => absurd q (by decide), fun q => absurd e q.2⟩
            · rw [if_neg (fun q => e ((l0 (by omega)).mp q))]
              exact go true ⟨fun _ => ⟨hbb, e⟩, fun _ => rfl⟩
        by_cases e : gA G l = k
        · have ho : gB G l = oth G l k := by unfold oth; rw [if_pos e]
          rw [if_pos (show nI (gA G l) = nI k by rw [e]), if_pos (show nI (gA G l) = nI k by rw [e]), ho]
          exact body _ rfl
        · have e2 : gB G l = k := by unfold inc at ci; simp at ci; omega
          have ho : gA G l = oth G l k := by unfold oth; rw [if_neg e]
          rw [if_neg (show ¬ nI (gA G l) = nI k from nI_ne (by omega) (by omega) e), if_pos (show nI (gB G l) = nI k by rw [e2]), if_neg (show ¬ nI (gA G l) = nI k from nI_ne (by omega) (by omega) e), ho]
          exact body _ rfl
      · have e1 : ¬ gA G l = k := fun e => ci (by simp [inc, e])
        have e2 : ¬ gB G l = k := fun e => ci (by simp [inc, e])
        have ci' : inc G l k = false := by simp [inc, e1, e2]
        rw [if_neg (nI_ne (by omega) (by omega) e1), if_neg (nI_ne (by omega) (by omega) e2)]
        refine ⟨r, _, by omega, ⟨l + 1, B, nw, b, by omega, rfl, hB, hLB, fun i hi => ?_, ?_⟩, rfl⟩
        · obtain ⟨q1, q2, q3⟩ := hS i hi
          refine ⟨q1, q2, fun e y => ?_⟩
          rw [q3 e y]
          show _ = (_ && (nbk G p q k x i y l && (!(inc G l k && decide (oth G l k = i)) || apt x y p (q * gG G l))))
          rw [ci', Bool.false_and, Bool.not_false, Bool.true_or, Bool.and_true]
        · rw [hb]
          constructor
          · intro q1 j hj cj
            by_cases e : j = l
            · rw [e, ci'] at cj; exact absurd cj (by decide)
            · exact q1 j (by omega) cj
          · intro q1 j hj cj
            exact q1 j (by omega) cj
