/-! ratio, turns -/
theorem s_10 {N : Nat} (hN : 2000 ≤ N) : St_10 N Rel := by
  intro Mx Mm a0 h
  apply rr_st
  obtain ⟨G, z, ls, hc⟩ := id h
  have hG := hc.1
  have hp : 0 < 2 ^ gN G := Nat.two_pow_pos _
  unfold f_X7_ratio f_X8_ratio
  rw [within_e, inI_e N a0 0 1 Mm (by decide) (by decide), bd_s, bd_s, ite_bI, ite_bI]
  refine rr_ite Iff.rfl (fun hv => ?_) (fun _ => rr_ret ⟨rfl, h⟩)
  obtain ⟨X, x1, x2, x3, x4, x5, x6⟩ := rtdX (N := N) hN hc
  obtain ⟨A, m1, m2, m3, m4, m5, m6⟩ := layM (N := N) hN hc
  obtain ⟨B, b1, b2, b3, b4⟩ := rasM (N := N) (am := 2 ^ gN G - 1) hN hG m6 m3 (by omega)
  rw [raB_all] at b3 b4
  have hR := Rel.scr hc x2 (m2.tr b2.scr) x5
  rw [x1, m1, bd_s, bd_s, m4.2.1, all_e hG.2.1, b1, bd_s, b3, b4, x4.1, x4.2.1]
  exact rr_ite Iff.rfl (fun _ => rr_ret ⟨rfl, hR⟩) (fun _ => rr_ret ⟨rfl, hR⟩)
theorem rat_bd {G : Gr} (hG : GrOk G) : (rat G).1 ≤ 280 ∧ (rat G).2 ≤ 10 ∧ 0 < (rat G).2 := by
  unfold rat
  by_cases c : gN G = 0
  · rw [if_pos c]; exact ⟨by show 1 ≤ 280; omega, by show 1 ≤ 10; omega, by show 0 < 1; omega⟩
  · rw [if_neg c]
    have hb := rtB_bd (am := 2 ^ gN G - 1) (g := gG G) hG (fun l hl => by have := gG_in hG hl; omega) (2 ^ gN G)
    rw [rtB_all] at hb
    have hb : (rtG G (2 ^ gN G)).1 ≤ 280 ∧ (rtG G (2 ^ gN G)).2 ≤ 10 := hb
    obtain ⟨s, s1, s2, s3⟩ := (rtG_ok hG).2
    have := (wst_ok (sk := noS) (len := rL G (gG G)) (rN G) (fun i hi => crc_fi s2 hi)).1
    have hp : 0 < (rtG G (2 ^ gN G)).2 := by rw [s3]; exact this
    generalize rtG G (2 ^ gN G) = x at *
    obtain ⟨x1, x2⟩ := x
    obtain ⟨g1, g2, g3, g4⟩ := red_e (a := x1) hp
    have q1 : (red (x1, x2)).1 ≤ x1 := Nat.div_le_self _ _
    have q2 : (red (x1, x2)).2 ≤ x2 := Nat.div_le_self _ _
    exact ⟨by omega, by omega, g4⟩
/-- a turn's rate is no more than p of q: all its rings' -/
theorem al_iff {G : Gr} {t : Nat} (hc : crG G t = false) (p q : Nat) : (wsG G t).2.1 * q ≤ p * (wsG G t).2.2 ↔ ∀ i, i < rN G → rL G (gG G) i * q ≤ p * rA G t i := by
  obtain ⟨h1, h2, h3⟩ := wst_ok (sk := noS) (len := rL G (gG G)) (rN G) (fun i hi => crc_fi hc hi)
  constructor
  · intro h i hi
    exact fr_le (h2 i hi rfl) h h1
  · intro h
    rcases h3 with h3 | ⟨j, j1, -, h3, -⟩
    · have : wsG G t = _ := h3
      rw [this]; show 0 * q ≤ _; rw [Nat.zero_mul]; exact Nat.zero_le _
    · have : wsG G t = _ := h3
      rw [this]; exact h j j1
/-- whether a turn isn't circled and has no greater rate than p of q -/
noncomputable def okT (G : Gr) (t p q : Nat) : Bool := !crG G t && decide ((wsG G t).2.1 * q ≤ p * (wsG G t).2.2)
theorem alwX {N : Nat} {G : Gr} {M : Mem} (hG : GrOk G) (h : RgX M G) (hr : RtX M G) {t p q : Nat} (ht : t < 2 ^ gN G) (hp : p ≤ 1000) (hq : q ≤ 1000) : f_X4_allows N (nI t) (nI p) (nI q) M = some (bB (okT G t p q)) := by
  have h2n := two_le hG.2.1
  have hRn := rN_le hG
  unfold f_X4_allows okT
  rw [ck_t (inb_nI (by omega) (by decide)), nI_clamp (by omega), nm_e1, hr.2.2 t ht]
  simp only [jn_e]
  cases c : crG G t
  · rcases (wst_ok (sk := noS) (len := rL G (gG G)) (rN G) (fun i hi => crc_fi c hi)).2.2 with e | ⟨j, j1, -, e, -⟩
    · have e : wsG G t = _ := e
      have hw : wcd G t = -2 := by unfold wcd; rw [c, if_neg ft_ne, e]; rfl
      rw [hw, e, if_pos rfl]
      show _ = some (bB (!false && decide (0 * q ≤ p * 1)))
      rw [Nat.zero_mul, decide_eq_true (Nat.zero_le _)]; rfl
    · have e : wsG G t = _ := e
      have hw : wcd G t = nI j := by unfold wcd; rw [c, if_neg ft_ne, e, if_neg (show ¬ j + 1 = 0 by omega)]; rfl
      have e2 : (-2 : Int32).toInt = -2 := rfl
      have en : (nI j).toInt = j := nI_toInt (by omega)
      have hl : rL G (gG G) j ≤ 280 := rL_le hG (fun l hl => by have := gG_in hG hl; omega)
      have ha : rA G t j ≤ 10 := rA_le hG
      have m1 : rL G (gG G) j * q ≤ 280 * 1000 := Nat.mul_le_mul hl hq
      have m2 : p * rA G t j ≤ 1000 * 10 := Nat.mul_le_mul hp ha
      rw [hw, e, if_neg (fun q => by have := congrArg Int32.toInt q; omega), if_neg (show ¬ nI j < 0 from nI_pos (by omega)), ck_t (inb_nI (by omega) (by decide)), nI_clamp (by omega), alX hG h j1 ht, bd_s, (h.2.2 j j1).2.1, pk_mul, pk_mul]
      show _ = some (bB (!false && decide (rL G (gG G) j * q ≤ p * rA G t j)))
      by_cases d : rL G (gG G) j * q ≤ p * rA G t j
      · rw [if_neg (nI_nlt d (by omega)), decide_eq_true d]; rfl
      · rw [if_pos (nI_lt (by omega) (by omega)), decide_eq_false d]; rfl
  · rw [(wcd_m1 hG).mpr c, if_neg (show ¬ (-1 : Int32) = -2 by decide), if_pos (show (-1 : Int32) < 0 by decide)]; rfl
/-- a turn has the ratio as its rate just if that is no more -/
theorem ok_rat {G : Gr} (hG : GrOk G) (hn : gN G ≠ 0) {t : Nat} (ht : t < 2 ^ gN G) (hc : crG G t = false) : (wsG G t).2.1 * (rat G).2 = (rat G).1 * (wsG G t).2.2 ↔ (wsG G t).2.1 * (rat G).2 ≤ (rat G).1 * (wsG G t).2.2 := by
  refine ⟨fun h => by omega, fun h => Nat.le_antisymm h ?_⟩
  obtain ⟨h1, s, s1, s2, s3⟩ := rtG_ok hG
  have hp : 0 < (rtG G (2 ^ gN G)).2 := by rw [s3]; exact (wst_ok (sk := noS) (len := rL G (gG G)) (rN G) (fun i hi => crc_fi s2 hi)).1
  have h4 := h1 t ht hc
  have hr : rat G = red (rtG G (2 ^ gN G)) := by unfold rat; rw [if_neg hn]
  rw [hr]
  generalize rtG G (2 ^ gN G) = x at *
  obtain ⟨x1, x2⟩ := x
  exact (red_le hp).2.mpr h4
theorem s_18 {N : Nat} (hN : 2000 ≤ N) : St_18 N Rel := by
  intro Mx Mm a0 h
  apply rr_st
  obtain ⟨G, z, ls, hc⟩ := id h
  have hG := hc.1
  have hn := hG.2.1
  have h2n := two_le hn
  have hp : 0 < 2 ^ gN G := Nat.two_pow_pos _
  unfold f_X7_turns f_X8_turns
  rw [within_e, inI_e N a0 0 2 Mm (by decide) (by decide), bd_s, bd_s, ite_bI, ite_bI]
  refine rr_ite Iff.rfl (fun hv => ?_) (fun _ => rr_ret ⟨rfl, h⟩)
  simp only [jn_e]
  suffices key : a0 ≤ 0 ∨ gN G ≠ 0 → RR PR (bd (f_X4_rateTurns N 1 Mx) (fun M4 => if a0 = 0 then (bd (f_X4_countOpen N  M4) (fun v9 => some (v9, M4))) else (if a0 = (1 : Int32) then (bd (f_X4_countBest N  M4) (fun v7 => some (v7, M4))) else (bd (f_X4_leastBest N  M4) (fun v5 => some (v5, M4)))))) (bd (f_X8_laysRings N  Mm) (fun M4 => nm (((1 : Int32) <<< ((M4.1 0 1) &&& 31)) - (1 : Int32)) (fun v5 => bd (f_X8_ratios N v5 M4) (fun M7 => lp (fun (k57 : (Int32 × Int32 × Int32 × Int32 × Mem) → Option (Int32 × Mem)) (a57 : Int32 × Int32 × Int32 × Int32 × Mem) => if v5 < a57.2.2.2.1 then (if a0 = 0 then (some (a57.1, a57.2.2.2.2)) else (if a0 = (1 : Int32) then (some (a57.2.1, a57.2.2.2.2)) else (some (a57.2.2.1, a57.2.2.2.2)))) else (bd (f_X8_rates N a57.2.2.2.1 v5 a57.2.2.2.2) (fun w10 => jn (fun (a121 : Int32 × Int32 × Int32) => nm (a57.2.2.2.1 + (1 : Int32)) (fun v11 => k57 (a121.1, a121.2.1, a121.2.2, v11, w10.2))) (fun (k121 : (Int32 × Int32 × Int32) → Option (Int32 × Mem)) => if w10.1 = 0 then (k121 (a57.1, a57.2.1, a57.2.2.1)) else (nm (a57.1 + (1 : Int32)) (fun v12 => if ((w10.2.1 0 18) * (w10.2.1 0 21)) = ((w10.2.1 0 20) * (w10.2.1 0 19)) then (nm (a57.2.1 + (1 : Int32)) (fun v13 => jn (fun (a119 : Int32) => k121 (v12, v13, a119)) (fun (k119 : Int32 → Option (Int32 × Mem)) => if a57.2.2.1 = (-1 : Int32) then (k119 a57.2.2.2.1) else (k119 a57.2.2.1)))) else (k121 (v12, a57.2.1, a57.2.2.1)))))))) N ((0 : Int32), (0 : Int32), (-1 : Int32), (0 : Int32), M7))))) by
    simp only [jn_e, nm_e1] at key ⊢
    rw [hc.2.1.2.1, hc.2.2.1.2.1]
    by_cases c : a0 ≤ 0
    · rw [if_pos c, if_pos c]; exact key (Or.inl c)
    · rw [if_neg c, if_neg c]
      by_cases d : gN G = 0
      · rw [if_pos (by rw [d]; rfl), if_pos (by rw [d]; rfl)]; exact rr_ret ⟨rfl, h⟩
      · rw [if_neg (nI_ne0 (by omega) (by omega)), if_neg (nI_ne0 (by omega) (by omega))]; exact key (Or.inr d)
  intro hq
  obtain ⟨X, x1, x2, x3, x4, x5, x6⟩ := rtdX (N := N) hN hc
  obtain ⟨A, m1, m2, m3, m4, m5, m6⟩ := layM (N := N) hN hc
  obtain ⟨B, b1, b2, b3, b4⟩ := rasM (N := N) (am := 2 ^ gN G - 1) hN hG m6 m3 (by omega)
  rw [raB_all] at b3 b4
  rw [x1, m1, bd_s, bd_s, nm_e1, m4.2.1, all_e hG.2.1, b1, bd_s]
  obtain ⟨q1, q2, q3⟩ := rat_bd hG
  obtain ⟨cb, hcb⟩ : ∃ cb : Nat → Bool, cb = fun t => okT G t (rat G).1 (rat G).2 := ⟨_, rfl⟩
  have hop : f_X4_countOpen N X = some (nI (cnt (fun t => !crG G t) (2 ^ gN G))) := by
    unfold f_X4_countOpen
    refine lp_cnt (2 ^ gN G) (fun t (a : Int32 × Int32) => a = (nI (cnt (fun t => !crG G t) t), nI t)) (fun t a rc ht hI => Or.inr ?_) (fun a rc hI => ?_) N 0 _ (by omega) rfl (by omega)
    · subst hI
      refine ⟨(nI (cnt (fun t => !crG G t) (t + 1)), nI (t + 1)), rfl, ?_⟩
      dsimp only
      rw [x3.2.1, if_neg (nI_ge ht (by omega)), ck_t (inb_nI (by omega) (by decide)), nI_clamp (by omega), x4.2.2 t ht]
      simp only [jn_e, nm_e1, nI_1]
      show _ = rc (nI (cnt (fun t => !crG G t) t + (!crG G t).toNat), _)
      cases c : crG G t
      · rw [if_neg (fun q => by rw [(wcd_m1 hG).mp q] at c; exact absurd c (by decide))]; rfl
      · rw [if_pos ((wcd_m1 hG).mpr c)]; rfl
    · subst hI
      dsimp only
      rw [x3.2.1, if_pos (nI_le (Nat.le_refl _) (by omega))]
  have hbe : f_X4_countBest N X = some (nI (cnt cb (2 ^ gN G))) := by
    unfold f_X4_countBest
    refine lp_cnt (2 ^ gN G) (fun t (a : Int32 × Int32) => a = (nI (cnt cb t), nI t)) (fun t a rc ht hI => Or.inr ?_) (fun a rc hI => ?_) N 0 _ (by omega) rfl (by omega)
    · subst hI
      refine ⟨(nI (cnt cb (t + 1)), nI (t + 1)), rfl, ?_⟩
      dsimp only
      rw [x3.2.1, if_neg (nI_ge ht (by omega)), x4.1, x4.2.1, alwX hG x3 x4 ht (by omega) (by omega), bd_s]
      simp only [jn_e, nm_e1, nI_1]
      show _ = rc (nI (cnt cb t + (cb t).toNat), _)
      have e : okT G t (rat G).1 (rat G).2 = cb t := by rw [hcb]
      rw [e]
      cases cb t
      · rfl
      · rfl
    · subst hI
      dsimp only
      rw [x3.2.1, if_pos (nI_le (Nat.le_refl _) (by omega))]
  obtain ⟨fb, hfb, hle⟩ : ∃ fb : Nat → Int32, (∀ t, fb t = if cnt cb t = 0 then -1 else nI (nth cb t 0)) ∧ f_X4_leastBest N X = some (fb (2 ^ gN G)) := by
    refine ⟨_, fun t => rfl, ?_⟩
    unfold f_X4_leastBest
    refine lp_S (S := fun o => o = some (if cnt cb (2 ^ gN G) = 0 then -1 else nI (nth cb (2 ^ gN G) 0))) (fun k (a : Int32) => ∃ t, t + k = 2 ^ gN G ∧ a = nI t ∧ cnt cb t = 0) (fun k a rc hJ => ?_) N (2 ^ gN G) _ ⟨0, by omega, rfl, rfl⟩ (by omega)
    obtain ⟨t, hk, rfl, h0⟩ := hJ
    rw [x3.2.1]
    cases k with
    | zero =>
      left
      have e : t = 2 ^ gN G := by omega
      subst e
      rw [if_pos (nI_le (Nat.le_refl _) (by omega)), if_pos h0]
    | succ k =>
      have ht : t < 2 ^ gN G := by omega
      rw [if_neg (nI_ge ht (by omega)), x4.1, x4.2.1, alwX hG x3 x4 ht (by omega) (by omega), bd_s]
      have e : okT G t (rat G).1 (rat G).2 = cb t := by rw [hcb]
      rw [e, ite_bB]
      cases c : cb t
      · right
        rw [if_neg (by decide), nm_e1, nI_1]
        exact ⟨k, _, by omega, ⟨t + 1, by omega, rfl, by rw [cnt_s0 c]; exact h0⟩, rfl⟩
      · left
        rw [if_pos rfl]
        have h1 := cnt_s1 c
        have h2 : cnt cb (t + 1) ≤ cnt cb (2 ^ gN G) := cnt_mono _ _ ht
        have h3 := nth_at c (2 ^ gN G) ht
        rw [h0] at h3
        rw [if_neg (by omega), h3]
  rw [hop, hbe, hle, bd_s, bd_s, bd_s]
  have hB := m2.tr b2.scr
  have hWB := b2.wd m6
  have hRB := b2.rg m3
  refine lp_S (S := fun o => RR PR (if a0 = 0 then some (nI (cnt (fun t => !crG G t) (2 ^ gN G)), X) else if a0 = 1 then some (nI (cnt cb (2 ^ gN G)), X) else some (fb (2 ^ gN G), X)) o) (fun k (a : Int32 × Int32 × Int32 × Int32 × Mem) => ∃ t C n f, t + k = 2 ^ gN G ∧ a = (nI (cnt (fun t => !crG G t) t), n, f, nI t, C) ∧ RtA B C ∧ (gN G ≠ 0 → n = nI (cnt cb t) ∧ f = fb t)) (fun k a rc hJ => ?_) N (2 ^ gN G) _ ⟨0, B, 0, -1, by omega, rfl, RtA.rf, fun _ => ⟨rfl, by rw [hfb]; rfl⟩⟩ (by omega)
  obtain ⟨t, C, n, f, hk, rfl, hC, hnf⟩ := hJ
  dsimp only
  cases k with
  | zero =>
    left
    have e : t = 2 ^ gN G := by omega
    subst e
    rw [if_pos (nI_lt (by omega) (by omega))]
    have hR := Rel.scr hc x2 (hB.tr hC.ra.scr) x5
    refine rr_ite Iff.rfl (fun _ => rr_ret ⟨rfl, hR⟩) (fun c0 => ?_)
    have hne : gN G ≠ 0 := by
      rcases hq with hq | hq
      · exfalso
        have h1 := (i_le _ _).mp hq
        have h2 := (i_le _ _).mp hv.1
        exact c0 ((i_eq _ _).mpr (by omega))
      · exact hq
    obtain ⟨n1, n2⟩ := hnf hne
    rw [n1, n2]
    exact rr_ite Iff.rfl (fun _ => rr_ret ⟨rfl, hR⟩) (fun _ => rr_ret ⟨rfl, hR⟩)
  | succ k =>
    right
    have ht : t < 2 ^ gN G := by omega
    rw [if_neg (nI_nlt (by omega) (by omega))]
    obtain ⟨D, d1, d2, d3⟩ := ratM (N := N) (am := 2 ^ gN G - 1) hN hG (hC.wd hWB) (hC.rg hRB) ht
    rw [crA_all] at d1 d3
    rw [wsA_all] at d3
    have d3 : crG G t = false → D.1 0 18 = nI (wsG G t).2.1 ∧ D.1 0 19 = nI (wsG G t).2.2 := d3
    rw [d1, bd_s]
    have hCD : RtA B D := ⟨fun a ha => (d2.1 a ha).trans (hC.1 a ha), fun j h1 h2 => (d2.2.1 j h1 h2).trans (hC.2.1 j h1 h2), d2.2.2.trans hC.2.2⟩
    have f20 : D.1 0 20 = nI (rat G).1 := by rw [hCD.2.1 20 (by omega) (by omega)]; exact b3
    have f21 : D.1 0 21 = nI (rat G).2 := by rw [hCD.2.1 21 (by omega) (by omega)]; exact b4
    simp only [jn_e, nm_e1, nI_1]
    rw [ite_bB]
    cases c : crG G t
    rotate_left
    · rw [if_neg (by decide)]
      refine ⟨k, _, by omega, ⟨t + 1, D, n, f, by omega, ?_, hCD, fun hz => ?_⟩, rfl⟩
      · rw [cnt_s0 (p := fun t => !crG G t) (by show (!crG G t) = false; rw [c]; rfl)]
      · obtain ⟨n1, n2⟩ := hnf hz
        have e : cb t = false := by rw [hcb]; show okT G t _ _ = false; unfold okT; rw [c]; rfl
        rw [cnt_s0 e]
        refine ⟨n1, ?_⟩
        rw [n2, hfb, hfb, cnt_s0 e]
        by_cases z : cnt cb t = 0
        · rw [if_pos z, if_pos z]
        · rw [if_neg z, if_neg z]
          show _ = nI (if 0 < cnt cb t then nth cb t 0 else t)
          rw [if_pos (by omega)]
    · rw [if_pos (show (!false) = true from rfl)]
      obtain ⟨w1, w2⟩ := d3 c
      have hb := wst_bd (sk := noS) (len := rL G (gG G)) (al := rA G t) (a := 280) (b := 10) (fun j => rL_le hG (fun l hl => by have := gG_in hG hl; omega)) (fun j => rA_le hG) (by omega) (rN G)
      have hb1 : (wsG G t).2.1 ≤ 280 := hb.1
      have hb2 : (wsG G t).2.2 ≤ 10 := hb.2
      have p1 : (wsG G t).2.1 * (rat G).2 ≤ 280 * 10 := Nat.mul_le_mul hb1 q2
      have p2 : (rat G).1 * (wsG G t).2.2 ≤ 280 * 10 := Nat.mul_le_mul q1 hb2
      rw [w1, w2, f20, f21, pk_mul, pk_mul]
      have ec : cnt (fun t => !crG G t) (t + 1) = cnt (fun t => !crG G t) t + 1 := cnt_s1 (p := fun t => !crG G t) (by show (!crG G t) = true; rw [c]; rfl)
      by_cases d : (wsG G t).2.1 * (rat G).2 = (rat G).1 * (wsG G t).2.2
      · rw [if_pos (by rw [d]), ← apply_ite (fun w => rc (nI (cnt (fun t => !crG G t) t + 1), n + 1, w, nI (t + 1), D))]
        refine ⟨k, _, by omega, ⟨t + 1, D, _, _, by omega, by rw [ec], hCD, fun hz => ?_⟩, rfl⟩
        obtain ⟨n1, n2⟩ := hnf hz
        have e : cb t = true := by rw [hcb]; show okT G t _ _ = true; unfold okT; rw [c, decide_eq_true (by omega)]; rfl
        rw [cnt_s1 e, n1, nI_1]
        refine ⟨rfl, ?_⟩
        rw [n2, hfb, hfb, cnt_s1 e]
        by_cases z : cnt cb t = 0
        · rw [if_pos z, if_pos rfl, if_neg (by omega)]
          show _ = nI (if 0 < cnt cb t then nth cb t 0 else t)
          rw [if_neg (by omega)]
        · have e1 : (-1 : Int32).toInt = -1 := rfl
          obtain ⟨y1, -⟩ := nth_ok (p := cb) t 0 (by omega)
          have en : (nI (nth cb t 0)).toInt = (nth cb t 0 : Nat) := nI_toInt (by omega)
          rw [if_neg z, if_neg (fun q => by have := congrArg Int32.toInt q; omega), if_neg (by omega)]
          show _ = nI (if 0 < cnt cb t then nth cb t 0 else t)
          rw [if_pos (by omega)]
      · rw [if_neg (nI_ne (by omega) (by omega) d)]
        refine ⟨k, _, by omega, ⟨t + 1, D, n, f, by omega, by rw [ec], hCD, fun hz => ?_⟩, rfl⟩
        obtain ⟨n1, n2⟩ := hnf hz
        have e : cb t = false := by
          rw [hcb]; show okT G t _ _ = false; unfold okT
          rw [decide_eq_false (fun q => d ((ok_rat hG hz ht c).mpr q)), Bool.and_false]
        rw [cnt_s0 e]
        refine ⟨n1, ?_⟩
        rw [n2, hfb, hfb, cnt_s0 e]
        by_cases z : cnt cb t = 0
        · rw [if_pos z, if_pos z]
        · rw [if_neg z, if_neg z]
          show _ = nI (if 0 < cnt cb t then nth cb t 0 else t)
          rw [if_pos (by omega)]
