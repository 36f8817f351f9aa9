/-! the class settles a turn: the least colouring by it -/
theorem liX {N : Nat} {M : Mem} {p i s F : Nat} (h1 : M.1 26 1 = nI p) (hp : p ≤ 40) (hF : F < 2 ^ p) (h30 : M.2 30 i = lN F) (hi : i < 6) (hs : s < 1000) : (∃ x, x < p ∧ s ≤ x ∧ F.testBit x = true ∧ (∀ y, s ≤ y → F.testBit y = true → x ≤ y) ∧ f_X2_lifts N (nI i) (nI s) M = some (1, setI M 28 i (nI x))) ∨ ((∀ y, s ≤ y → F.testBit y = false) ∧ ∃ w, f_X2_lifts N (nI i) (nI s) M = some (0, w) ∧ Ag [28] M w) := by
  have h2p : 2 ^ p ≤ 2 ^ 40 := Nat.pow_le_pow_right (by omega) hp
  have i6 : inb (nI i) 6 := inb_nI (by omega) (by decide)
  have ci : (nI i).toNatClampNeg = i := nI_clamp (by omega)
  unfold f_X2_lifts
  rw [h1]
  by_cases c : s < p
  · have hl := lfree (m := F) (s := s) (by omega) (by omega)
    rw [if_pos (nI_lt c (by omega))]
    simp only [ck_t i6, ci, h30, hl, nm_e1, jn_e]
    obtain ⟨w, hw⟩ : ∃ w, w = adn F (2 ^ s - 1) := ⟨_, rfl⟩
    have wt : ∀ y, w.testBit y = (F.testBit y && !decide (y < s)) := fun y => by rw [hw, adn_tb, Nat.testBit_two_pow_sub_one]
    have hw40 : w < 2 ^ 40 := by rw [hw]; exact adn_lt (by omega)
    rw [← hw]
    by_cases w0 : w = 0
    · right
      refine ⟨fun y hy => ?_, ?_⟩
      · have := wt y
        rw [w0, Nat.zero_testBit, decide_eq_false (by omega)] at this
        simpa using this.symm
      · have z : lg_cmp (lN w) 0 = 0 := (l0 (by omega)).mpr w0
        rw [if_pos z, if_pos z]
        exact ⟨_, rfl, Ag.setI (by simp)⟩
    · left
      obtain ⟨x, x1, x2, x3, x4⟩ := lowb hw40 w0
      have z : ¬ lg_cmp (lN w) 0 = 0 := fun q => w0 ((l0 (by omega)).mp q)
      rw [wt] at x2
      simp at x2
      refine ⟨x, ?_, x2.2, x2.1, fun y hy hFy => ?_, ?_⟩
      · rcases Nat.lt_or_ge x p with q | q
        · exact q
        · rw [tb_hi hF q] at x2; exact absurd x2.1 (by decide)
      · rcases Nat.lt_or_ge y x with q | q
        · have := x3 y q
          rw [wt, hFy, decide_eq_false (by omega)] at this
          exact absurd this (by decide)
        · exact q
      · rw [if_neg z, x4, bcJ x1, bd_s, if_neg z]
  · right
    rw [if_neg (nI_nlt (by omega) (by omega))]
    exact ⟨fun y hy => tb_hi hF (by omega), M, rfl, Ag.rf⟩
theorem sm_upv {v : Nat → Nat} {i x : Nat} (hx : v i < x) : ∀ P, i < P → sm v P < sm (upv v i x) P
  | 0, h => absurd h (Nat.not_lt_zero _)
  | P + 1, h => by
    show sm v P + v P < sm (upv v i x) P + upv v i x P
    by_cases c : i = P
    · subst c
      rw [upv_s, sm_cg (f := upv v i x) (g := v) _ (fun y hy => upv_o (by omega))]
      omega
    · rw [upv_o (fun q => c q.symm)]
      have := sm_upv hx P (by omega)
      omega
/-- trial places: within lists, and no more than those of any colouring by the turn -/
def TV (A : Mem) (G : Gr) (p q t : Nat) (F : Nat → Nat) (v : Nat → Nat) (P : Nat) : Prop := ∀ i, i < P → A.1 28 i = nI (v i) ∧ v i < p ∧ (F i).testBit (v i) = true ∧ ∀ c, Col G p q (fun i x => (F i).testBit x) c → Lie G p q t c → v i ≤ c i
theorem sm_bd {v : Nat → Nat} {p : Nat} : ∀ P, (∀ i, i < P → v i < p) → sm v P ≤ p * P
  | 0, _ => Nat.zero_le _
  | P + 1, h => by
    have h1 := sm_bd P (fun i hi => h i (by omega))
    have h2 := h P (by omega)
    show sm v P + v P ≤ _
    rw [Nat.mul_succ]; omega
def SetR (G : Gr) (p q t : Nat) (F : Nat → Nat) (M : Mem) (o : Option (Int32 × Mem)) : Prop := ∃ b M', o = some (bB b, M') ∧ Ag [28] M M' ∧ (b = true → ∃ v, (∀ i, i < gP G → M'.1 28 i = nI (v i)) ∧ Col G p q (fun i x => (F i).testBit x) v ∧ Lie G p q t v ∧ ∀ c, Col G p q (fun i x => (F i).testBit x) c → Lie G p q t c → ∀ i, i < gP G → v i ≤ c i) ∧ (b = false → ∀ c, Col G p q (fun i x => (F i).testBit x) c → ¬ Lie G p q t c)
theorem SetR.no {G : Gr} {p q t : Nat} {F : Nat → Nat} {M A : Mem} (hA : Ag [28] M A) (h : ∀ c, Col G p q (fun i x => (F i).testBit x) c → ¬ Lie G p q t c) : SetR G p q t F M (some (0, A)) := ⟨false, A, rfl, hA, fun q => absurd q (by decide), fun _ => h⟩
theorem prepAg {M A : Mem} {G : Gr} {p q : Nat} {F : Nat → Nat} (h : Prep M G p q F) (hA : Ag [28] M A) : Prep A G p q F := by
  unfold Prep at *
  rw [(hA 26 (by simp)).1, (hA 29 (by simp)).1, (hA 30 (by simp)).2]
  exact h
/-- one point is lifted -/
theorem half {N : Nat} {G : Gr} (hG : GrOk G) {p q t : Nat} {F : Nat → Nat} {M A : Mem} (hp : p ≤ 40) (hF : ∀ i, i < gP G → F i < 2 ^ p) (hPr : Prep M G p q F) (hA : Ag [28] M A) {v : Nat → Nat} (hv : TV A G p q t F v (gP G)) {i s : Nat} (hi : i < gP G) (hs : s < 1000) (hvs : v i < s) (hc : ∀ c, Col G p q (fun i x => (F i).testBit x) c → Lie G p q t c → s ≤ c i) : (∃ w, f_X2_lifts N (nI i) (nI s) A = some (0, w) ∧ SetR G p q t F M (some (0, w))) ∨ (∃ B u, f_X2_lifts N (nI i) (nI s) A = some (1, B) ∧ Ag [28] M B ∧ TV B G p q t F u (gP G) ∧ sm v (gP G) < sm u (gP G) ∧ (∀ j, j ≠ i → u j = v j) ∧ s ≤ u i) := by
  have hP := hG.1
  have hPA := prepAg hPr hA
  rcases liX (N := N) (M := A) (p := p) (i := i) (s := s) (F := F i) hPA.1 hp (hF i hi) (hPA.2.2.2.1 i hi) (by omega) hs with ⟨x, x1, x2, x3, x4, x5⟩ | ⟨y1, w, y2, y3⟩
  · right
    refine ⟨_, upv v i x, x5, hA.tr (Ag.setI (by simp)), fun j hj => ?_, sm_upv (by omega) _ hi, fun j hj => upv_o hj, by rw [upv_s]; exact x2⟩
    by_cases e : j = i
    · subst e
      rw [upv_s]
      refine ⟨by simp [setI_1], x1, x3, fun c c1 c2 => x4 _ (hc c c1 c2) (c1.1 j hj).2⟩
    · rw [upv_o e]
      obtain ⟨h1, h2⟩ := hv j hj
      exact ⟨by rw [setI_1, if_pos rfl, if_neg e]; exact h1, h2⟩
  · left
    refine ⟨w, y2, SetR.no (hA.tr y3) (fun c c1 c2 => ?_)⟩
    have h1 : (F i).testBit (c i) = true := (c1.1 i hi).2
    have h2 := y1 (c i) (hc c c1 c2)
    rw [h2] at h1; exact absurd h1 (by decide)
theorem back_e {a b p r : Nat} (ha : a < 1000) (hb : b < 1000) (hp : p < 1000) (hr : r < 1000) : (nI a - (nI p - nI r) ≤ nI b ↔ a + r ≤ b + p) ∧ (p ≤ a + r → nI a - (nI p - nI r) = nI (a + r - p)) := by
  have e : (nI a - (nI p - nI r)).toInt = (a : Int) - ((p : Int) - r) := by
    rw [Int32.toInt_sub, pk_sub_toInt (by omega) (by omega), nI_toInt (by omega), bm32 (by omega) (by omega)]
  constructor
  · rw [i_le, e, nI_toInt (by omega)]; omega
  · intro h
    rw [i_eq, e, nI_toInt (by omega)]; omega
