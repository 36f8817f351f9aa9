/-! the class rates its turns -/
theorem lj_nI {v : Int64} {g : Nat} (hg : g < 2 ^ 31) (h : v.toInt = g) : v.toInt32 = nI g := by
  rw [i_eq, nI_toInt hg, Int64.toInt_toInt32, h, Int.bmod_eq_of_le (by omega) (by omega)]
theorem cpN {N : Nat} {M : Mem} (hN : 2000 ≤ N) {a b : Nat} (ha : a < 2 ^ 31) (hb : b < 2 ^ 31) (h0 : 0 < a ∨ 0 < b) : ∃ v : Int64, f_X7_commonPart N (nI a).toInt64 (nI b).toInt64 M = some v ∧ v.toInt32 = nI (Nat.gcd a b) := by
  have ea : (nI a).toInt64.toInt = a := by rw [w_toInt, nI_toInt ha]
  have eb : (nI b).toInt64.toInt = b := by rw [w_toInt, nI_toInt hb]
  obtain ⟨v, v1, v2, v3, -⟩ := cp_e (M := M) hN (nI a).toInt64 (nI b).toInt64 (by rw [ea, eb]; exact Or.inl ⟨by omega, by omega⟩)
  rw [ea, eb] at v2 v3
  have v4 : 0 < v.toInt := v3 (by omega)
  have e : v.toInt = (Nat.gcd a b : Nat) := by
    have h5 : v.toInt.natAbs = Nat.gcd a b := v2
    omega
  have hg : Nat.gcd a b < 2 ^ 31 := by
    rcases h0 with h0 | h0
    · exact Nat.lt_of_le_of_lt (Nat.le_of_dvd h0 (Nat.gcd_dvd_left a b)) ha
    · exact Nat.lt_of_le_of_lt (Nat.le_of_dvd h0 (Nat.gcd_dvd_right a b)) hb
  exact ⟨v, v1, lj_nI hg e⟩
theorem comM {N : Nat} {M : Mem} (hN : 2000 ≤ N) {a b : Nat} (ha : a < 2 ^ 31) (hb : b < 2 ^ 31) : f_X8_common N (nI a) (nI b) M = some (nI (Nat.gcd a b)) := by
  unfold f_X8_common
  refine lp_S (S := fun o => o = some (nI (Nat.gcd a b))) (fun n (c : Int32 × Int32) => ∃ x y, c = (nI x, nI y) ∧ x < 2 ^ 31 ∧ y < 2 ^ 31 ∧ EuM n x y ∧ Nat.gcd x y = Nat.gcd a b) (fun n c rc hJ => ?_) N 128 _ ⟨a, b, rfl, ha, hb, eu_0 (by omega) (by omega), rfl⟩ (by omega)
  obtain ⟨x, y, rfl, hx, hy, hE, hg⟩ := hJ
  dsimp only
  by_cases c : y = 0
  · left
    subst c
    rw [if_pos (show nI 0 = 0 from rfl), ← hg, Nat.gcd_zero_right]
  · right
    have yn := nI_ne0 (n := y) (by omega) hy
    obtain ⟨m, m1, m2⟩ := eu_step hE c
    have hr : x % y < y := Nat.mod_lt _ (by omega)
    rw [if_neg yn, ck_t yn, nm_e1, pk_rem hx (by omega) hy]
    exact ⟨m, _, m1, ⟨y, x % y, rfl, hy, by omega, m2, by rw [gcd_st]; exact hg⟩, rfl⟩
theorem RgX.ag {M A : Mem} {G : Gr} (h : RgX M G) (h0 : A.1 19 0 = M.1 19 0) (h7 : A.1 19 7 = M.1 19 7) (ha : ∀ a, 20 ≤ a → a ≤ 24 → A.1 a = M.1 a) : RgX A G := by
  unfold RgX at *
  rw [h0, h7, ha 20 (by omega) (by omega), ha 21 (by omega) (by omega), ha 23 (by omega) (by omega), ha 24 (by omega) (by omega)]
  exact h
/-- memory while turns are rated -/
def FrT (M A : Mem) : Prop := Ag [19, 25] M A ∧ A.1 19 0 = M.1 19 0 ∧ A.1 19 5 = M.1 19 5 ∧ A.1 19 6 = 1 ∧ A.1 19 7 = M.1 19 7
theorem FrT.s25 {M A : Mem} (h : FrT M A) (t : Nat) (v : Int32) : FrT M (setI A 25 t v) := by
  obtain ⟨h1, h2, h3, h4, h5⟩ := h
  exact ⟨h1.tr (Ag.setI (by simp)), by rw [setI_o (by decide)]; exact h2, by rw [setI_o (by decide)]; exact h3, by rw [setI_o (by decide)]; exact h4, by rw [setI_o (by decide)]; exact h5⟩
theorem FrT.s34 {M A : Mem} (h : FrT M A) (u v : Int32) : FrT M (setI (setI A 19 3 u) 19 4 v) := by
  obtain ⟨h1, h2, h3, h4, h5⟩ := h
  exact ⟨h1.tr (Ag.tr (Ag.setI (by simp)) (Ag.setI (by simp))), by simp [setI_1, h2], by simp [setI_1, h3], by simp [setI_1, h4], by simp [setI_1, h5]⟩
theorem FrT.rg {M A : Mem} {G : Gr} (h : FrT M A) (hR : RgX M G) : RgX A G := hR.ag h.2.1 h.2.2.2.2 (fun a h1 h2 => (h.1 a (by simp; omega)).1)
/-- the least rate so far, as the class has it -/
def LrX (A : Mem) (G : Gr) (t : Nat) (f : Int32) : Prop := f = 1 ∧ (rtG G t = (1, 0) ∨ rN G = 0) ∧ A.1 19 3 = 1 ∧ A.1 19 4 = 1 ∨ f = 0 ∧ 0 < rN G ∧ (rtG G t).1 ≤ 280 ∧ 0 < (rtG G t).1 ∧ (rtG G t).2 ≤ 10 ∧ 0 < (rtG G t).2 ∧ A.1 19 3 = nI (rtG G t).1 ∧ A.1 19 4 = nI (rtG G t).2
theorem rtX {N : Nat} (hN : 2000 ≤ N) {G : Gr} {z : Int32} {ls : Nat → Int64} {M : Mem} (hG : GrOk G) (h : NetX M 1 G z ls) (hb : Bk M G) : ∃ M', f_X4_rateTurns N 1 M = some M' ∧ Ag [19, 20, 21, 22, 23, 24, 25] M M' ∧ M'.1 19 5 = 1 ∧ M'.1 19 6 = 1 ∧ RgX M' G ∧ RtX M' G := by
  have hn := hG.2.1
  have h2n := two_le hn
  have hRn := rN_le hG
  have hpos : 0 < 2 ^ gN G := Nat.two_pow_pos _
  obtain ⟨M2, e1, e2, e3, e4, e5, e6⟩ := findX (N := N) hN hG hRn h hb
  unfold f_X4_rateTurns
  rw [e1, bd_s]
  have e2' : Ag [19, 20, 21, 22, 23, 24, 25] M M2 := e2.up (fun a ha => by simp at ha ⊢; omega)
  rcases hb.2.1 with h6 | h6
  rotate_left
  · have h5 := (hb.2.2.2 h6).1
    have := e6 h5
    subst this
    rw [if_neg (by rw [h6]; decide)]
    exact ⟨_, rfl, e2', e3, h6, e5, (hb.2.2.2 h6).2⟩
  rw [if_pos (by rw [e4]; exact h6), ck_t (Or.inr rfl), nm_e1, nm_e1, nm_e1]
  have hF0 : FrT M2 (setI (setI (setI M2 19 6 1) 19 3 1) 19 4 1) := ⟨Ag.tr (Ag.setI (by simp)) (Ag.tr (Ag.setI (by simp)) (Ag.setI (by simp))), by simp [setI_1], by simp [setI_1], by simp [setI_1], by simp [setI_1]⟩
  have hL0 : LrX (setI (setI (setI M2 19 6 1) 19 3 1) 19 4 1) G 0 1 := Or.inl ⟨rfl, Or.inl rfl, by simp [setI_1], by simp [setI_1]⟩
  generalize setI (setI (setI M2 19 6 1) 19 3 1) 19 4 1 = A0 at hF0 hL0 ⊢
  refine lp_S (S := fun o => ∃ M', o = some M' ∧ Ag [19, 20, 21, 22, 23, 24, 25] M M' ∧ M'.1 19 5 = 1 ∧ M'.1 19 6 = 1 ∧ RgX M' G ∧ RtX M' G) (fun k (a : Int32 × Int32 × Mem) => ∃ t A f, t + k = 2 ^ gN G ∧ a = (f, nI t, A) ∧ FrT M2 A ∧ (∀ s, s < t → A.1 25 s = wcd G s) ∧ LrX A G t f) (fun k a rc hJ => ?_) N (2 ^ gN G) _ ⟨0, A0, 1, by omega, rfl, hF0, fun s hs => absurd hs (Nat.not_lt_zero _), hL0⟩ (by omega)
  obtain ⟨t, A, f, hk, rfl, hF, hw, hL⟩ := hJ
  have hRA := hF.rg e5
  have h7 : A.1 19 7 = nI (2 ^ gN G) := hRA.2.1
  dsimp only
  rw [h7]
  cases k with
  | zero =>
    left
    have e : t = 2 ^ gN G := by omega
    subst e
    rw [if_pos (nI_le (Nat.le_refl _) (by omega))]
    have fin : ∀ B : Mem, FrT M2 B → (∀ s, s < 2 ^ gN G → B.1 25 s = wcd G s) → B.1 19 3 = nI (rat G).1 → B.1 19 4 = nI (rat G).2 → ∃ M', some B = some M' ∧ Ag [19, 20, 21, 22, 23, 24, 25] M M' ∧ M'.1 19 5 = 1 ∧ M'.1 19 6 = 1 ∧ RgX M' G ∧ RtX M' G := fun B hB hwB b3 b4 => ⟨B, rfl, e2'.tr (hB.1.up (fun a ha => by simp at ha ⊢; omega)), by rw [hB.2.2.1]; exact e3, hB.2.2.2.1, hB.rg e5, b3, b4, hwB⟩
    rcases hL with ⟨-, l2, l3, l4⟩ | ⟨-, l0, l1, l2, l3, l4, l5, l6⟩
    · have hz : gN G = 0 := by
        rcases l2 with l2 | l2
        · exfalso
          obtain ⟨s, s1, s2, s3⟩ := (rtG_ok hG).2
          have := (wst_ok (sk := noS) (len := rL G (gG G)) (rN G) (fun i hi => crc_fi s2 hi)).1
          have e : (wsG G s).2.2 = 0 := by rw [← s3, l2]
          have e' : (wst noS (rL G (gG G)) (rA G s) (rN G)).2.2 = 0 := e
          omega
        · rcases Nat.eq_zero_or_pos (gN G) with q | q
          · exact q
          · have := gN_rN q; omega
      have hr : rat G = (1, 1) := by unfold rat; rw [if_pos hz]
      obtain ⟨v, v1, v2⟩ := cpN (N := N) (M := A) hN (a := 1) (b := 1) (by omega) (by omega) (Or.inl (by omega))
      rw [l3, l4, show (1 : Int32) = nI 1 from rfl, v1, bd_s, v2, if_pos (show nI (Nat.gcd 1 1) ≤ nI 1 by decide)]
      exact fin A hF hw (by rw [hr]; exact l3) (by rw [hr]; exact l4)
    · have hz : ¬ gN G = 0 := by have := rN_gN l0; omega
      have hr : rat G = red (rtG G (2 ^ gN G)) := by unfold rat; rw [if_neg hz]
      generalize rtG G (2 ^ gN G) = x at *
      obtain ⟨x1, x2⟩ := x
      dsimp only at l1 l2 l3 l4 l5 l6
      obtain ⟨v, v1, v2⟩ := cpN (N := N) (M := A) hN (a := x1) (b := x2) (by omega) (by omega) (Or.inl (by omega))
      obtain ⟨g1, g2, g3, g4⟩ := red_e (a := x1) l4
      have hgl : Nat.gcd x1 x2 ≤ 10 := Nat.le_trans (Nat.le_of_dvd l4 (Nat.gcd_dvd_right x1 x2)) l3
      have hr1 : (rat G).1 = x1 / Nat.gcd x1 x2 := by rw [hr]; rfl
      have hr2 : (rat G).2 = x2 / Nat.gcd x1 x2 := by rw [hr]; rfl
      rw [l5, l6, v1, bd_s, v2]
      by_cases c : Nat.gcd x1 x2 ≤ 1
      · have e1' : Nat.gcd x1 x2 = 1 := by omega
        rw [if_pos (show nI (Nat.gcd x1 x2) ≤ 1 from nI_le (b := 1) c (by decide))]
        exact fin A hF hw (by rw [hr1, e1', Nat.div_one]; exact l5) (by rw [hr2, e1', Nat.div_one]; exact l6)
      · have gn : ¬ nI (Nat.gcd x1 x2) = 0 := nI_ne0 (by omega) (by omega)
        rw [if_neg (show ¬ nI (Nat.gcd x1 x2) ≤ 1 from nI_ge (a := 1) (by omega) (by omega)), ck_t gn, nm_e1, ck_t gn, nm_e1]
        have q4 : (setI A 19 3 (nI x1 / nI (Nat.gcd x1 x2))).1 19 4 = nI x2 := by simp [setI_1, l6]
        rw [q4, pk_div (by omega) (by omega) (by omega), pk_div (by omega) (by omega) (by omega)]
        exact fin _ (hF.s34 _ _) (fun s hs => by rw [setI_o (by decide), setI_o (by decide)]; exact hw s hs) (by rw [hr1]; simp [setI_1]) (by rw [hr2]; simp [setI_1])
  | succ k =>
    right
    have ht : t < 2 ^ gN G := by omega
    rw [if_neg (nI_ge ht (by omega)), nm_e1]
    have em : nI (2 ^ gN G) - 1 - nI t = nI (2 ^ gN G - 1 - t) := by
      have : nI (2 ^ gN G) - 1 = nI (2 ^ gN G - 1) := pk_sub (b := 1) (by omega)
      rw [this, pk_sub (by omega)]
    rw [em]
    have hval : ∀ K : Int32 → Option Mem, jn K (fun (k71 : Int32 → Option Mem) => if nI t ≤ nI (2 ^ gN G - 1 - t) then (bd (f_X4_worstRing N (nI t) A) (fun v19 => k71 v19)) else (ck (inb (nI (2 ^ gN G - 1 - t)) 1024) (k71 (A.1 25 (nI (2 ^ gN G - 1 - t)).toNatClampNeg)))) = K (wcd G t) := by
      intro K
      rw [jn_e]
      by_cases c : t ≤ 2 ^ gN G - 1 - t
      · rw [if_pos (nI_le c (by omega)), wrX hN hG hRA ht, bd_s]
      · rw [if_neg (nI_ge (by omega) (by omega)), ck_t (inb_nI (by omega) (by decide)), nI_clamp (by omega), hw _ (by omega), wcd_flip ht]
    rw [hval]
    have t10 : inb (nI t) 1024 := inb_nI (by omega) (by decide)
    have ct : (nI t).toNatClampNeg = t := nI_clamp (by omega)
    rw [ck_t t10, nm_e1, ct]
    simp only [jn_e, nm_e1, nI_1]
    have hF' := hF.s25 t (wcd G t)
    have hRA' := hF'.rg e5
    have hw' : ∀ s, s < t + 1 → (setI A 25 t (wcd G t)).1 25 s = wcd G s := fun s hs => by
      rw [setI_1, if_pos rfl]
      by_cases c : s = t
      · rw [if_pos c, c]
      · rw [if_neg c]; exact hw s (by omega)
    have hs3 : (setI A 25 t (wcd G t)).1 19 3 = A.1 19 3 := by rw [setI_o (by decide)]
    have hs4 : (setI A 25 t (wcd G t)).1 19 4 = A.1 19 4 := by rw [setI_o (by decide)]
    have stp : rtG G (t + 1) = if crG G t = true ∨ (rtG G t).1 * (wsG G t).2.2 ≤ (wsG G t).2.1 * (rtG G t).2 then rtG G t else (wsG G t).2 := rfl
    have keep : rtG G (t + 1) = rtG G t ∨ rN G = 0 → (∃ m c, m < k + 1 ∧ (∃ t A f, t + m = 2 ^ gN G ∧ c = (f, nI t, A) ∧ FrT M2 A ∧ (∀ s, s < t → A.1 25 s = wcd G s) ∧ LrX A G t f) ∧ rc (f, nI (t + 1), setI A 25 t (wcd G t)) = rc c) := by
      intro hr
      refine ⟨k, _, by omega, ⟨t + 1, _, f, by omega, rfl, hF', hw', ?_⟩, rfl⟩
      unfold LrX
      rw [hs3, hs4]
      rcases hr with hr | hr
      · rw [hr]; exact hL
      · rcases hL with ⟨a1, a2, a3, a4⟩ | ⟨-, b2, -⟩
        · exact Or.inl ⟨a1, Or.inr hr, a3, a4⟩
        · omega
    cases hcr : crG G t
    rotate_left
    · have hwc : wcd G t = -1 := by unfold wcd; rw [if_pos hcr]
      rw [if_pos (show wcd G t < 0 by rw [hwc]; decide)]
      exact keep (Or.inl (by rw [stp, if_pos (Or.inl hcr)]))
    · rcases Nat.eq_zero_or_pos (rN G) with hz | hz
      · have hwc : wcd G t = -2 := by
          unfold wcd wsG
          rw [hcr, hz]; rfl
        rw [if_pos (show wcd G t < 0 by rw [hwc]; decide)]
        exact keep (Or.inr hz)
      · obtain ⟨j, j1, -, j3, j4, j5, -⟩ := ws_ring (sk := noS) (gG_pos hG) hcr ⟨0, hz, rfl⟩
        have j3 : wsG G t = (j + 1, rL G (gG G) j, rA G t j) := j3
        have hwc : wcd G t = nI j := by
          unfold wcd
          rw [hcr, if_neg (by decide), j3, if_neg (by simp)]; rfl
        have j64 : inb (nI j) 64 := inb_nI (by omega) (by decide)
        have cj : (nI j).toNatClampNeg = j := nI_clamp (by omega)
        have hl : rL G (gG G) j ≤ 280 := rL_le hG (fun l hl => by have := gG_in hG hl; omega)
        have ha : rA G t j ≤ 10 := rA_le hG
        have l21 : (setI A 25 t (wcd G t)).1 21 j = nI (rL G (gG G) j) := (hRA'.2.2 j j1).2.1
        rw [j3] at stp
        dsimp only at stp
        rw [hcr] at stp
        have take : rtG G (t + 1) = (rL G (gG G) j, rA G t j) → (∃ m c, m < k + 1 ∧ (∃ t A f, t + m = 2 ^ gN G ∧ c = (f, nI t, A) ∧ FrT M2 A ∧ (∀ s, s < t → A.1 25 s = wcd G s) ∧ LrX A G t f) ∧ bd (f_X4_along N (nI j) (nI t) (setI (setI A 25 t (wcd G t)) 19 3 (nI (rL G (gG G) j)))) (fun v14 => rc (0, nI (t + 1), setI (setI (setI A 25 t (wcd G t)) 19 3 (nI (rL G (gG G) j))) 19 4 v14)) = rc c) := by
          intro hr
          have hR3 : RgX (setI (setI A 25 t (wcd G t)) 19 3 (nI (rL G (gG G) j))) G := hRA'.ag (by simp [setI_1]) (by simp [setI_1]) (fun a h1 h2 => setI_o (by omega))
          rw [alX hG hR3 j1 ht, bd_s]
          refine ⟨k, _, by omega, ⟨t + 1, _, 0, by omega, rfl, hF'.s34 _ _, fun s hs => by rw [setI_o (by decide), setI_o (by decide)]; exact hw' s hs, Or.inr ⟨rfl, hz, ?_⟩⟩, rfl⟩
          rw [hr]
          exact ⟨hl, j5, ha, j4, by simp [setI_1], by simp [setI_1]⟩
        rw [hwc] at l21 take keep hRA' hs3 hs4 ⊢
        simp only [ck_t j64, cj, l21]
        rw [if_neg (nI_pos (by omega))]
        rcases hL with ⟨l1, l2, l3, l4⟩ | ⟨l0, l1, l2, l3, l4, l5, l6, l7⟩
        · rw [if_neg (by rw [l1]; decide)]
          refine take ?_
          rcases l2 with l2 | l2
          · rw [stp, l2]
            rw [if_neg (fun q => by rcases q with q | q; exact absurd q (by decide); simp at q; omega)]
          · omega
        · rw [if_pos l0, alX hG hRA' j1 ht, bd_s, hs3, hs4, l6, l7, pk_mul, pk_mul]
          have e1' : (rtG G t).1 * rA G t j ≤ 280 * 10 := Nat.mul_le_mul l2 ha
          have e2' : rL G (gG G) j * (rtG G t).2 ≤ 280 * 10 := Nat.mul_le_mul hl l4
          by_cases c : (rtG G t).1 * rA G t j ≤ rL G (gG G) j * (rtG G t).2
          · rw [if_pos (nI_le c (by omega))]
            exact keep (Or.inl (by rw [stp, if_pos (Or.inr c)]))
          · rw [if_neg (nI_ge (by omega) (by omega))]
            refine take ?_
            rw [stp, if_neg (fun q => by rcases q with q | q; exact absurd q (by decide); exact c q)]
