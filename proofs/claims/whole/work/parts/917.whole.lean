/-! whole, off -/
theorem col_rat {G : Gr} (hG : GrOk G) {p : Nat} (hp : 1 ≤ p) : (∃ c, Col G p 1 (fun _ _ => true) c) ↔ (rat G).1 ≤ p * (rat G).2 := by
  by_cases hn : gN G = 0
  · have hr : rat G = (1, 1) := by unfold rat; rw [if_pos hn]
    rw [hr]
    refine ⟨fun _ => by show 1 ≤ p * 1; omega, fun _ => ⟨fun _ => 0, fun i _ => ⟨by show 0 < p; omega, rfl⟩, fun l hl => by omega⟩⟩
  · obtain ⟨h1, s, s1, s2, s3⟩ := rtG_ok hG
    have hr : rat G = red (rtG G (2 ^ gN G)) := by unfold rat; rw [if_neg hn]
    have hpos : 0 < (wsG G s).2.2 := (wst_ok (sk := noS) (len := rL G (gG G)) (rN G) (fun i hi => crc_fi s2 hi)).1
    have hrt : (rat G).1 ≤ p * (rat G).2 ↔ (rtG G (2 ^ gN G)).1 * 1 ≤ p * (rtG G (2 ^ gN G)).2 := by
      rw [hr]
      have hp2 : 0 < (rtG G (2 ^ gN G)).2 := by rw [s3]; exact hpos
      generalize rtG G (2 ^ gN G) = x at *
      obtain ⟨x1, x2⟩ := x
      have := (red_le (a := p) (b := 1) (c := x1) hp2).2
      rw [Nat.mul_one] at this
      exact this
    rw [hrt]
    constructor
    · rintro ⟨c, hc⟩
      obtain ⟨l1, l2⟩ := hc.lie
      have hk := lie_ok hG (Nat.le_refl 1) l1
      unfold okT at hk
      simp at hk
      have h2 := h1 _ l2 hk.1
      have hw : 0 < (wsG G (tuC G c)).2.2 := (wst_ok (sk := noS) (len := rL G (gG G)) (rN G) (fun i hi => crc_fi hk.1 hi)).1
      exact fr_le h2 (by rw [Nat.mul_one]; exact hk.2) hw
    · intro h
      rw [s3] at h
      exact pot_col hG hp (Nat.le_refl 1) (by omega) ((al_iff s2 p 1).mp h)
theorem rat_1 {G : Gr} (hG : GrOk G) : 1 ≤ (rat G).1 := by
  by_cases hn : gN G = 0
  · have hr : rat G = (1, 1) := by unfold rat; rw [if_pos hn]
    rw [hr]; exact Nat.le_refl 1
  · have := rat_ge hG hn
    have := (rat_bd hG).2.2
    omega
def whl (G : Gr) (W : Nat) : Prop := 1 ≤ W ∧ W ≤ 30 ∧ (rat G).1 ≤ W * (rat G).2 ∧ (∃ c, Col G W 1 (fun _ _ => true) c) ∧ ∀ p, 1 ≤ p → p < W → ¬ ∃ c, Col G p 1 (fun _ _ => true) c
theorem whl_e {G : Gr} (hG : GrOk G) : whl G (((rat G).1 + (rat G).2 - 1) / (rat G).2) := by
  have hP := hG.1
  obtain ⟨q1, q2, q3⟩ := rat_bd hG
  have ha := rat_1 hG
  have h30 : (rat G).1 ≤ 30 * (rat G).2 := (col_rat hG (by omega)).mp ⟨fun i => 5 * i, fun i hi => ⟨by show 5 * i < 30; omega, rfl⟩, fun l hl => by
    obtain ⟨-, -, -, o4, o5⟩ := hG.2.2.1 l hl
    have hg := gG_in hG hl
    unfold apt dst
    simp
    omega⟩
  obtain ⟨W, hW⟩ : ∃ W, W = ((rat G).1 + (rat G).2 - 1) / (rat G).2 := ⟨_, rfl⟩
  have e1 := Nat.div_add_mod ((rat G).1 + (rat G).2 - 1) (rat G).2
  have e2 := Nat.mod_lt ((rat G).1 + (rat G).2 - 1) q3
  rw [← hW] at e1
  rw [← hW]
  have e3 : (rat G).2 * W = W * (rat G).2 := Nat.mul_comm _ _
  have hle : (rat G).1 ≤ W * (rat G).2 := by omega
  have hW1 : 1 ≤ W := by
    rcases Nat.eq_zero_or_pos W with z | z
    · rw [z, Nat.zero_mul] at hle; omega
    · exact z
  have hlt : ∀ p, p < W → p * (rat G).2 < (rat G).1 := fun p hp => by
    have : (p + 1) * (rat G).2 ≤ W * (rat G).2 := Nat.mul_le_mul_right _ hp
    rw [Nat.add_mul, Nat.one_mul] at this
    omega
  refine ⟨hW1, ?_, hle, (col_rat hG hW1).mpr hle, fun p hp hpW hex => ?_⟩
  · rcases Nat.lt_or_ge 30 W with c | c
    · have := hlt 30 c; omega
    · exact c
  · have := (col_rat hG hp).mp hex
    have := hlt p hpW
    omega
theorem lwX {N : Nat} (hN : 2000 ≤ N) {G : Gr} {z : Int32} {ls : Nat → Int64} {Mx Mm : Mem} (hc : Cmp G z ls Mx Mm) : ∃ X, f_X7_leastWhole N Mx = some (nI (((rat G).1 + (rat G).2 - 1) / (rat G).2), X) ∧ ScrX Mx X ∧ Bk X G ∧ X.1 19 3 = nI (rat G).1 ∧ X.1 19 4 = nI (rat G).2 := by
  have hG := hc.1
  obtain ⟨q1, q2, q3⟩ := rat_bd hG
  obtain ⟨X, x1, x2, x3, x4, x5, x6⟩ := rtdX (N := N) hN hc
  unfold f_X7_leastWhole
  rw [x1, bd_s, x4.1, x4.2.1, if_pos (show (1 : Int32) ≤ nI (rat G).2 from nI_le (a := 1) q3 (by omega)), ck_t (nI_ne0 q3 (by omega)), nI_add, show nI ((rat G).1 + (rat G).2) - 1 = nI ((rat G).1 + (rat G).2 - 1) from pk_sub (b := 1) (by omega), pk_div (by omega) q3 (by omega)]
  exact ⟨X, rfl, x2, x5, x4.1, x4.2.1⟩
theorem woM {N : Nat} (hN : 2000 ≤ N) {G : Gr} {z : Int32} {ls : Nat → Int64} {Mx Mm : Mem} (hc : Cmp G z ls Mx Mm) {W : Nat} (hW : whl G W) : ∃ A, f_X8_wholeOf N Mm = some (nI W, A) ∧ ScrM Mm A ∧ ∀ j, j ≠ 12 → j ≠ 13 → A.1 0 j = Mm.1 0 j := by
  obtain ⟨w1, w2, -, w3, w4⟩ := hW
  have hcg : ∀ p i y, i < gP G → y < p → plc ls 0 i y = (fun _ _ => true : Nat → Nat → Bool) i y := fun p i y _ _ => rfl
  unfold f_X8_wholeOf
  refine lp_S (S := fun o => ∃ A, o = some (nI W, A) ∧ ScrM Mm A ∧ ∀ j, j ≠ 12 → j ≠ 13 → A.1 0 j = Mm.1 0 j) (fun n (a : Int32 × Mem) => ∃ p A, p + n = W ∧ 1 ≤ p ∧ a = (nI p, A) ∧ ScrM Mm A ∧ ∀ j, j ≠ 12 → j ≠ 13 → A.1 0 j = Mm.1 0 j) (fun n a rc hJ => ?_) N (W - 1) _ ⟨1, Mm, by omega, by omega, rfl, ScrM.rf, fun _ _ _ => rfl⟩ (by omega)
  obtain ⟨p, A, hp, hp1, rfl, hA, hA0⟩ := hJ
  dsimp only
  have hcA : Cmp G z ls Mx A := Cmp_scr hc ScrX.rf hA hc.2.2.2.2.1
  obtain ⟨b, B, b1, b2, b3, -, b4, b5⟩ := refC (N := N) hN hcA (p := p) (q := 1) (li := 0) hp1 (by omega) (by omega) (by omega)
  have b1' : f_X8_colours N (nI p) 1 0 A = some (bB b, B) := b1
  rw [b1', bd_s]
  dsimp only
  have hex : b = true ↔ ∃ c, Col G p 1 (fun _ _ => true) c := by
    constructor
    · intro hb
      obtain ⟨c, hcc, -⟩ := b4 hb
      exact ⟨c, (col_cg (hcg p)).mp hcc.1⟩
    · rintro ⟨c, hcc⟩
      cases hb : b
      · exact absurd ((col_cg (hcg p)).mpr hcc) (b5 hb c)
      · rfl
  have hB0 : ∀ j, j ≠ 12 → j ≠ 13 → B.1 0 j = Mm.1 0 j := fun j j1 j2 => (b3 j j1 j2).trans (hA0 j j1 j2)
  cases n with
  | zero =>
    left
    have e : p = W := by omega
    subst e
    rw [hex.mpr w3, if_neg (show ¬ bB true = 0 by decide)]
    exact ⟨B, rfl, hA.tr b2, hB0⟩
  | succ n =>
    right
    have hb : b = false := by
      cases hb : b
      · rfl
      · exact absurd (hex.mp hb) (w4 p hp1 (by omega))
    rw [hb, if_pos (show bB false = 0 from rfl), nm_e1, nI_1]
    exact ⟨n, _, by omega, ⟨p + 1, B, by omega, by omega, rfl, hA.tr b2, hB0⟩, rfl⟩
theorem s_11 {N : Nat} (hN : 2000 ≤ N) : St_11 N Rel := by
  intro Mx Mm h
  apply rr_st
  obtain ⟨G, z, ls, hc⟩ := id h
  have hP := hc.1.1
  unfold f_X7_whole f_X8_whole
  rw [hc.2.1.1, hc.2.2.1.1]
  refine rr_ite Iff.rfl (fun _ => rr_ret ⟨rfl, h⟩) (fun _ => ?_)
  obtain ⟨X, x1, x2, x3, -⟩ := lwX (N := N) hN hc
  obtain ⟨A, a1, a2, -⟩ := woM (N := N) hN hc (whl_e hc.1)
  rw [x1, a1, bd_s, bd_s]
  exact rr_ret ⟨rfl, Rel.scr hc x2 a2 x3⟩
theorem s_12 {N : Nat} (hN : 2000 ≤ N) : St_12 N Rel := by
  intro Mx Mm a0 h
  apply rr_st
  obtain ⟨G, z, ls, hc⟩ := id h
  have hG := hc.1
  have hn := hG.2.1
  have hp : 0 < 2 ^ gN G := Nat.two_pow_pos _
  unfold f_X7_off f_X8_off
  rw [within_e, inI_e N a0 0 1 Mm (by decide) (by decide), bd_s, bd_s, ite_bI, ite_bI]
  refine rr_ite Iff.rfl (fun hv => ?_) (fun _ => rr_ret ⟨rfl, h⟩)
  rw [hc.2.1.2.1, hc.2.2.1.2.1]
  refine rr_ite Iff.rfl (fun _ => rr_ret ⟨rfl, h⟩) (fun hz => ?_)
  have hn0 : gN G ≠ 0 := fun e => hz (by rw [e]; rfl)
  obtain ⟨X, x1, x2, x3, x4, x5⟩ := lwX (N := N) hN hc
  obtain ⟨A, m1, m2, m3, m4, m5, m6⟩ := layM (N := N) hN hc
  obtain ⟨B, b1, b2, b3, b4⟩ := rasM (N := N) (am := 2 ^ gN G - 1) hN hG m6 m3 (by omega)
  rw [raB_all] at b3 b4
  have hsB := m2.tr b2.scr
  have hcB : Cmp G z ls Mx B := Cmp_scr hc ScrX.rf hsB hc.2.2.2.2.1
  have hW := whl_e hG
  generalize hWd : ((rat G).1 + (rat G).2 - 1) / (rat G).2 = W at *
  obtain ⟨C, c1, c2, c3⟩ := woM (N := N) hN hcB hW
  obtain ⟨q1, q2, q3⟩ := rat_bd hG
  obtain ⟨w1, w2, w3, -⟩ := hW
  have hm : W * (rat G).2 ≤ 30 * 10 := Nat.mul_le_mul w2 q2
  have hg : Nat.gcd (W * (rat G).2 - (rat G).1) (rat G).2 = 1 := by
    have hd1 : Nat.gcd (W * (rat G).2 - (rat G).1) (rat G).2 ∣ (rat G).2 := Nat.gcd_dvd_right _ _
    have hd2 : Nat.gcd (W * (rat G).2 - (rat G).1) (rat G).2 ∣ W * (rat G).2 - (rat G).1 := Nat.gcd_dvd_left _ _
    have hd3 : Nat.gcd (W * (rat G).2 - (rat G).1) (rat G).2 ∣ W * (rat G).2 := Nat.dvd_trans hd1 (Nat.dvd_mul_left _ _)
    have hd4 : Nat.gcd (W * (rat G).2 - (rat G).1) (rat G).2 ∣ (rat G).1 := by
      have := Nat.dvd_sub hd3 hd2
      rw [show W * (rat G).2 - (W * (rat G).2 - (rat G).1) = (rat G).1 by omega] at this
      exact this
    have := Nat.dvd_gcd hd4 hd1
    rw [rat_g hG hn0] at this
    exact Nat.eq_one_of_dvd_one this
  have hR := Rel.scr hc x2 (hsB.tr c2) x3
  rw [x1, m1, bd_s, bd_s, m4.2.1, all_e hn, b1, bd_s, c1, bd_s, nm_e1]
  dsimp only
  rw [c3 21 (by omega) (by omega), c3 20 (by omega) (by omega), b3, b4, x4, x5, pk_mul, pk_sub w3, comM hN (by omega) (by omega), bd_s, hg]
  simp only [jn_e, ck_t (show ¬ nI 1 = 0 by decide)]
  have d1 : ∀ y, y < 2 ^ 31 → nI y / nI 1 = nI y := fun y hy => by rw [pk_div hy (by omega) (by omega), Nat.div_one]
  rw [d1 _ (by omega), d1 _ (by omega)]
  exact rr_ite Iff.rfl (fun _ => rr_ret ⟨rfl, hR⟩) (fun _ => rr_ret ⟨rfl, hR⟩)
