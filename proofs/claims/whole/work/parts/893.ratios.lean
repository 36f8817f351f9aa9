/-! the reference's ratio among some lines -/
noncomputable def crB (G : Gr) (am t : Nat) : Bool := decide (adn t am ≠ 0) || crA G am t
noncomputable def rtB (G : Gr) (g : Nat → Nat) (am T : Nat) : Nat × Nat := rtf (crB G am) (fun t => (wsA G g am t).2) T
noncomputable def raB (G : Gr) (g : Nat → Nat) (am : Nat) : Nat × Nat := if am = 0 then (1, 1) else red (rtB G g am (2 ^ gN G))
def RaA (M A : Mem) : Prop := (∀ a, a ≠ 0 → A.1 a = M.1 a) ∧ (∀ j, ¬ (18 ≤ j ∧ j ≤ 21) → A.1 0 j = M.1 0 j) ∧ A.2 = M.2
theorem RaA.rf {M : Mem} : RaA M M := ⟨fun _ _ => rfl, fun _ _ => rfl, rfl⟩
theorem RaA.tr {M A B : Mem} (h : RaA M A) (h2 : RaA A B) : RaA M B := ⟨fun a ha => (h2.1 a ha).trans (h.1 a ha), fun j hj => (h2.2.1 j hj).trans (h.2.1 j hj), h2.2.2.trans h.2.2⟩
theorem RtA.ra {M A : Mem} (h : RtA M A) : RaA M A := ⟨h.1, fun j hj => h.2.1 j (by omega) (by omega), h.2.2⟩
theorem RaA.set {M A : Mem} (h : RaA M A) (u v : Int32) : RaA M (setI (setI A 0 20 u) 0 21 v) := ⟨fun a ha => by rw [setI_o ha, setI_o ha]; exact h.1 a ha, fun j h1 => by rw [setI_1, if_pos rfl, if_neg (by omega), setI_1, if_pos rfl, if_neg (by omega)]; exact h.2.1 j h1, h.2.2⟩
theorem RaA.wd {M A : Mem} {G : Gr} {g : Nat → Nat} (h : RaA M A) (hW : WdM M G g) : WdM A G g := hW.ag (fun j hj => h.2.1 j (by omega)) (fun a h1 h2 => ⟨h.1 a (by omega), by rw [h.2.2]⟩)
theorem RaA.rg {M A : Mem} {G : Gr} (h : RaA M A) (hR : RgM M G) : RgM A G := by
  unfold RgM at *
  rw [h.2.1 17 (by omega), h.1 8 (by omega), h.1 9 (by omega), h.1 10 (by omega)]
  exact hR
theorem RaA.scr {M A : Mem} (h : RaA M A) : ScrM M A := ⟨fun j hj => h.2.1 j (by omega), fun a ha => ⟨h.1 a (by omega), by rw [h.2.2]⟩, fun j _ => by rw [h.1 23 (by omega)], fun j _ => by rw [h.1 24 (by omega)], fun j _ => by rw [h.2.2]⟩
theorem ws_pos {G : Gr} {g : Nat → Nat} {am t : Nat} (h : crB G am t = false) : 0 < (wsA G g am t).2.2 := by
  unfold crB at h
  simp at h
  exact (wst_ok (sk := skA G am) (len := rL G g) (rN G) (fun i hi => crc_fi h.2 hi)).1
theorem rtB_bd {G : Gr} {g : Nat → Nat} {am : Nat} (hG : GrOk G) (hg : ∀ l, l < gN G → g l ≤ 14) : ∀ T, (rtB G g am T).1 ≤ 280 ∧ (rtB G g am T).2 ≤ 10
  | 0 => ⟨by show 1 ≤ 280; omega, by show 0 ≤ 10; omega⟩
  | T + 1 => by
    have ih := rtB_bd (am := am) hG hg T
    have hb := wst_bd (sk := skA G am) (len := rL G g) (al := rA G T) (a := 280) (b := 10) (fun j => rL_le hG hg) (fun j => rA_le hG) (by omega) (rN G)
    unfold rtB at ih ⊢
    rw [rtf_s]
    split
    · exact ih
    · exact hb
theorem rtB_1 {G : Gr} {g : Nat → Nat} {am : Nat} : ∀ T, 0 < Nat.gcd (rtB G g am T).1 (rtB G g am T).2
  | T => by
    rcases (rtf_ok (cr := crB G am) (ab := fun t => (wsA G g am t).2) T (fun t _ hc => ws_pos hc)).2 with ⟨q, -⟩ | ⟨s, -, s2, s3⟩
    · unfold rtB; rw [q]; decide
    · unfold rtB; rw [s3]; exact Nat.gcd_pos_of_pos_right _ (ws_pos s2)
theorem rasM {N : Nat} (hN : 2000 ≤ N) {G : Gr} {M : Mem} {g : Nat → Nat} (hG : GrOk G) (hW : WdM M G g) (hR : RgM M G) {am : Nat} (ham : am < 2 ^ gN G) : ∃ A, f_X8_ratios N (nI am) M = some A ∧ RaA M A ∧ A.1 0 20 = nI (raB G g am).1 ∧ A.1 0 21 = nI (raB G g am).2 := by
  have hn := hG.2.1
  have h2n := two_le hn
  have hpos : 0 < 2 ^ gN G := Nat.two_pow_pos _
  have hg14 : ∀ l, l < gN G → g l ≤ 14 := fun l hl => (hW.le hG hl).2
  unfold f_X8_ratios
  rw [nm_e1, jn_if, nm_e1]
  by_cases c0 : am = 0
  · subst c0
    rw [if_pos (show nI 0 = 0 from rfl)]
    have hA : RaA M (setI (setI M 0 20 1) 0 21 1) := RaA.rf.set _ _
    have e20 : (setI (setI M 0 20 1) 0 21 1).1 0 20 = 1 := by simp [setI_1]
    have e21 : (setI (setI M 0 20 1) 0 21 1).1 0 21 = 1 := by simp [setI_1]
    generalize setI (setI M 0 20 1) 0 21 1 = A at hA e20 e21 ⊢
    refine lp_S (S := fun o => ∃ A, o = some A ∧ RaA M A ∧ A.1 0 20 = nI (raB G g 0).1 ∧ A.1 0 21 = nI (raB G g 0).2) (fun n (a : Int32 × Mem) => a.2 = A) (fun n a rc hJ => Or.inl ?_) N 0 _ rfl (by omega)
    obtain ⟨i, B⟩ := a
    have hJ : B = A := hJ
    subst hJ
    dsimp only
    simp only [jn_e, if_pos (show nI 0 = 0 from rfl), ite_self, e20, e21]
    rw [show (1 : Int32) = nI 1 from rfl, comM hN (by omega) (by omega), bd_s, ck_t (by decide), nm_e1, ck_t (by decide), nm_e1]
    refine ⟨_, rfl, hA.set _ _, ?_, ?_⟩
    · unfold raB; rw [if_pos rfl]; simp [setI_1]; decide
    · unfold raB; rw [if_pos rfl]; simp [setI_1, e21]; decide
  · have an : ¬ nI am = 0 := nI_ne0 (by omega) (by omega)
    rw [if_neg an]
    have hA : RaA M (setI (setI M 0 20 1) 0 21 0) := RaA.rf.set _ _
    have e20 : (setI (setI M 0 20 1) 0 21 0).1 0 20 = nI (rtB G g am 0).1 := by simp [setI_1]; rfl
    have e21 : (setI (setI M 0 20 1) 0 21 0).1 0 21 = nI (rtB G g am 0).2 := by simp [setI_1]; rfl
    generalize setI (setI M 0 20 1) 0 21 0 = A0 at hA e20 e21 ⊢
    refine lp_S (S := fun o => ∃ A, o = some A ∧ RaA M A ∧ A.1 0 20 = nI (raB G g am).1 ∧ A.1 0 21 = nI (raB G g am).2) (fun k (a : Int32 × Mem) => ∃ t A, t + k = 2 ^ gN G ∧ a = (nI t, A) ∧ RaA M A ∧ A.1 0 20 = nI (rtB G g am t).1 ∧ A.1 0 21 = nI (rtB G g am t).2) (fun k a rc hJ => ?_) N (2 ^ gN G) _ ⟨0, A0, by omega, rfl, hA, e20, e21⟩ (by omega)
    obtain ⟨t, A, hk, rfl, hA, e20, e21⟩ := hJ
    have hWA := hA.wd hW
    have hRA := hA.rg hR
    obtain ⟨z, ls, hM⟩ := hWA.1
    obtain ⟨b1, b2⟩ := rtB_bd (am := am) hG hg14 t
    dsimp only
    simp only [jn_e]
    rw [hM.2.1, sh1 (show gN G < 31 by omega)]
    cases k with
    | zero =>
      left
      have e : t = 2 ^ gN G := by omega
      subst e
      rw [if_pos (nI_le (Nat.le_refl _) (by omega)), e20, e21, comM hN (by omega) (by omega), bd_s]
      have hg1 := rtB_1 (G := G) (g := g) (am := am) (2 ^ gN G)
      have hr1 : (raB G g am).1 = (rtB G g am (2 ^ gN G)).1 / Nat.gcd (rtB G g am (2 ^ gN G)).1 (rtB G g am (2 ^ gN G)).2 := by unfold raB; rw [if_neg c0]; rfl
      have hr2 : (raB G g am).2 = (rtB G g am (2 ^ gN G)).2 / Nat.gcd (rtB G g am (2 ^ gN G)).1 (rtB G g am (2 ^ gN G)).2 := by unfold raB; rw [if_neg c0]; rfl
      generalize rtB G g am (2 ^ gN G) = x at *
      obtain ⟨x1, x2⟩ := x
      dsimp only at *
      have hgl : Nat.gcd x1 x2 < 2 ^ 31 := by
        rcases Nat.eq_zero_or_pos x2 with q | q
        · rw [q, Nat.gcd_zero_right]; omega
        · have := Nat.le_of_dvd q (Nat.gcd_dvd_right x1 x2); omega
      have gn : ¬ nI (Nat.gcd x1 x2) = 0 := nI_ne0 hg1 hgl
      rw [ck_t gn, nm_e1, ck_t gn, nm_e1]
      have q4 : (setI A 0 20 (nI x1 / nI (Nat.gcd x1 x2))).1 0 21 = nI x2 := by simp [setI_1, e21]
      rw [q4, pk_div (by omega) hg1 hgl, pk_div (by omega) hg1 hgl]
      exact ⟨_, rfl, hA.set _ _, by rw [hr1]; simp [setI_1], by rw [hr2]; simp [setI_1]⟩
    | succ k =>
      right
      have ht : t < 2 ^ gN G := by omega
      rw [if_neg (nI_ge ht (by omega)), if_neg an, nI_andn]
      simp only [nm_e1, nI_1]
      have stp : rtB G g am (t + 1) = if crB G am t = true ∨ (rtB G g am t).1 * (wsA G g am t).2.2 ≤ (wsA G g am t).2.1 * (rtB G g am t).2 then rtB G g am t else (wsA G g am t).2 := rfl
      have hat : adn t am < 1024 := lt1024 (adn_lt ht) hn
      by_cases c1 : adn t am = 0
      rotate_left
      · have hcb : crB G am t = true := by unfold crB; rw [decide_eq_true c1]; rfl
        rw [if_neg (nI_ne0 (by omega) (by omega))]
        rw [if_pos (Or.inl hcb)] at stp
        exact ⟨k, _, by omega, ⟨t + 1, A, by omega, rfl, hA, by rw [stp]; exact e20, by rw [stp]; exact e21⟩, rfl⟩
      have hcb : crB G am t = crA G am t := by unfold crB; rw [decide_eq_false (fun q => q c1)]; rfl
      rw [if_pos (by rw [c1]; rfl)]
      obtain ⟨B, B1, B2, B3⟩ := ratM (N := N) (am := am) hN hG hWA hRA ht
      rw [B1, bd_s]
      dsimp only
      have f20 : B.1 0 20 = A.1 0 20 := B2.2.1 20 (by omega) (by omega)
      have f21 : B.1 0 21 = A.1 0 21 := B2.2.1 21 (by omega) (by omega)
      have hB := hA.tr B2.ra
      cases hc : crA G am t
      rotate_left
      · rw [if_pos (show bB (!true) = 0 from rfl)]
        rw [if_pos (Or.inl (by rw [hcb]; exact hc))] at stp
        exact ⟨k, _, by omega, ⟨t + 1, B, by omega, rfl, hB, by rw [stp, f20]; exact e20, by rw [stp, f21]; exact e21⟩, rfl⟩
      · obtain ⟨w1, w2⟩ := B3 hc
        rw [if_neg (show ¬ bB (!false) = 0 by decide), w1, w2, f20, f21, e20, e21, pk_mul, pk_mul]
        have hb := wst_bd (sk := skA G am) (len := rL G g) (al := rA G t) (a := 280) (b := 10) (fun j => rL_le hG hg14) (fun j => rA_le hG) (by omega) (rN G)
        have hb1 : (wsA G g am t).2.1 ≤ 280 := hb.1
        have hb2 : (wsA G g am t).2.2 ≤ 10 := hb.2
        have m1 : (rtB G g am t).1 * (wsA G g am t).2.2 ≤ 280 * 10 := Nat.mul_le_mul b1 hb2
        have m2 : (wsA G g am t).2.1 * (rtB G g am t).2 ≤ 280 * 10 := Nat.mul_le_mul hb1 b2
        by_cases d : (rtB G g am t).1 * (wsA G g am t).2.2 ≤ (wsA G g am t).2.1 * (rtB G g am t).2
        · rw [if_neg (nI_nlt d (by omega))]
          rw [if_pos (Or.inr d)] at stp
          exact ⟨k, _, by omega, ⟨t + 1, B, by omega, rfl, hB, by rw [stp, f20]; exact e20, by rw [stp, f21]; exact e21⟩, rfl⟩
        · rw [if_pos (nI_lt (by omega) (by omega))]
          rw [if_neg (fun q => by rcases q with q | q; rw [hcb, hc] at q; exact absurd q (by decide); exact d q)] at stp
          have q19 : (setI B 0 20 (nI (wsA G g am t).2.1)).1 0 19 = nI (wsA G g am t).2.2 := by simp [setI_1, w2]
          rw [q19]
          exact ⟨k, _, by omega, ⟨t + 1, _, by omega, rfl, hB.set _ _, by rw [stp]; simp [setI_1], by rw [stp]; simp [setI_1]⟩, rfl⟩
/-! among all lines -/
theorem adn_all {n m : Nat} (h : m < 2 ^ n) : adn m (2 ^ n - 1) = 0 := Nat.eq_of_testBit_eq (fun i => by
  rw [adn_tb, Nat.zero_testBit, Nat.testBit_two_pow_sub_one]
  by_cases c : i < n
  · rw [decide_eq_true c]; simp
  · rw [tb_hi h (by omega)]; rfl)
theorem wst_cg {sk sk' : Nat → Bool} {len len' al al' : Nat → Nat} : ∀ n, (∀ i, i < n → sk i = sk' i ∧ len i = len' i ∧ al i = al' i) → wst sk len al n = wst sk' len' al' n
  | 0, _ => rfl
  | n + 1, h => by
    obtain ⟨e1, e2, e3⟩ := h n (by omega)
    rw [wst_s, wst_s, wst_cg n (fun i hi => h i (by omega)), e1, e2, e3]
theorem crc_cg {sk sk' : Nat → Bool} {al al' : Nat → Nat} : ∀ n, (∀ i, i < n → sk i = sk' i ∧ al i = al' i) → crc sk al n = crc sk' al' n
  | 0, _ => rfl
  | n + 1, h => by
    obtain ⟨e1, e3⟩ := h n (by omega)
    show (crc sk al n || _) = (crc sk' al' n || _)
    rw [crc_cg n (fun i hi => h i (by omega)), e1, e3]
theorem rtf_cg {cr cr' : Nat → Bool} {ab ab' : Nat → Nat × Nat} : ∀ n, (∀ i, i < n → cr i = cr' i ∧ ab i = ab' i) → rtf cr ab n = rtf cr' ab' n
  | 0, _ => rfl
  | n + 1, h => by
    obtain ⟨e1, e3⟩ := h n (by omega)
    rw [rtf_s, rtf_s, rtf_cg n (fun i hi => h i (by omega)), e1, e3]
theorem skA_all {G : Gr} {i : Nat} (hi : i < rN G) : skA G (2 ^ gN G - 1) i = false := by
  obtain ⟨⟨-, r2, -⟩, -⟩ := rS_ok hi
  unfold skA
  rw [adn_all r2]; rfl
theorem crA_all {G : Gr} {t : Nat} : crA G (2 ^ gN G - 1) t = crG G t := crc_cg _ (fun i hi => ⟨skA_all hi, rfl⟩)
theorem wsA_all {G : Gr} {g : Nat → Nat} {t : Nat} : wsA G g (2 ^ gN G - 1) t = wst noS (rL G g) (rA G t) (rN G) := wst_cg _ (fun i hi => ⟨skA_all hi, rfl, rfl⟩)
theorem rtB_all {G : Gr} {g : Nat → Nat} : rtB G g (2 ^ gN G - 1) (2 ^ gN G) = rtf (crG G) (fun t => (wst noS (rL G g) (rA G t) (rN G)).2) (2 ^ gN G) := rtf_cg _ (fun t ht => ⟨by unfold crB; rw [adn_all ht, crA_all]; rfl, by show (wsA _ _ _ _).2 = _; rw [wsA_all]⟩)
theorem raB_all {G : Gr} : raB G (gG G) (2 ^ gN G - 1) = rat G := by
  unfold raB rat
  rw [rtB_all]
  by_cases c : gN G = 0
  · rw [if_pos (by rw [c]), if_pos c]
  · have : 1 < 2 ^ gN G := Nat.one_lt_two_pow c
    rw [if_neg (by omega), if_neg c]; rfl
theorem all_e {n : Nat} (h : n ≤ 10) : ((1 : Int32) <<< (nI n &&& 31)) - 1 = nI (2 ^ n - 1) := by
  have : 0 < 2 ^ n := Nat.two_pow_pos _
  rw [sh1 (by omega)]; exact pk_sub (b := 1) (by omega)
