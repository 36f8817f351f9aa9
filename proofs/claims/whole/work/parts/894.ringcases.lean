/-! rings, a ring, turns that are circled, their rates -/
theorem agScr {M M' : Mem} (h : Ag [19, 20, 21, 22, 23, 24, 25] M M') : ScrX M M' := ⟨by rw [(h 0 (by simp)).1], by rw [(h 31 (by simp)).1], fun a ha => h a (by simp; omega)⟩
theorem fndX {N : Nat} (hN : 2000 ≤ N) {G : Gr} {z : Int32} {ls : Nat → Int64} {Mx Mm : Mem} (hc : Cmp G z ls Mx Mm) : ∃ M', f_X4_findRings N 1 Mx = some M' ∧ ScrX Mx M' ∧ RgX M' G ∧ Bk M' G ∧ NetX M' 1 G z ls := by
  obtain ⟨hG, hX, hM, hw, hb, -⟩ := hc
  obtain ⟨M2, e1, e2, e3, e4, e5, e6⟩ := findX (N := N) hN hG (rN_le hG) hX hb
  have hs := agScr (e2.up (fun a ha => by simp at ha ⊢; omega))
  refine ⟨M2, e1, hs, e5, ⟨Or.inr e3, by rw [e4]; exact hb.2.1, fun _ => e5, fun h6 => ⟨e3, ?_⟩⟩, hX.ag (fun a h1 h2 => hs.2.2 a (by omega))⟩
  rw [e4] at h6
  obtain ⟨h5, hr⟩ := hb.2.2.2 h6
  rw [e6 h5]; exact hr
theorem rtdX {N : Nat} (hN : 2000 ≤ N) {G : Gr} {z : Int32} {ls : Nat → Int64} {Mx Mm : Mem} (hc : Cmp G z ls Mx Mm) : ∃ M', f_X4_rateTurns N 1 Mx = some M' ∧ ScrX Mx M' ∧ RgX M' G ∧ RtX M' G ∧ Bk M' G ∧ NetX M' 1 G z ls := by
  obtain ⟨hG, hX, hM, hw, hb, -⟩ := hc
  obtain ⟨M2, e1, e2, e3, e4, e5, e6⟩ := rtX (N := N) hN hG hX hb
  have hs := agScr e2
  exact ⟨M2, e1, hs, e5, e6, ⟨Or.inr e3, Or.inr e4, fun _ => e5, fun _ => ⟨e3, e6⟩⟩, hX.ag (fun a h1 h2 => hs.2.2 a (by omega))⟩
theorem layM {N : Nat} (hN : 2000 ≤ N) {G : Gr} {z : Int32} {ls : Nat → Int64} {Mx Mm : Mem} (hc : Cmp G z ls Mx Mm) : ∃ A, f_X8_laysRings N Mm = some A ∧ ScrM Mm A ∧ RgM A G ∧ NetM A G z ls ∧ A.1 0 8 = -1 ∧ WdM A G (gG G) := by
  obtain ⟨hG, hX, hM, hw, -⟩ := hc
  obtain ⟨A, a1, a2, a3⟩ := laysRM (N := N) hN hG (rN_le hG) hM
  have h8 : A.1 0 8 = -1 := by rw [a2.2.1 8 (by omega)]; exact hw
  exact ⟨A, a1, a2.scr, a3, a2.net hM, h8, ⟨z, ls, a2.net hM⟩, Or.inl ⟨h8, rfl⟩⟩
theorem trn {n : Nat} (hn : n ≤ 10) {x : Int32} : (x &&& (nI (2 ^ n - 1) ^^^ (-1))) = 0 ↔ ∃ t, t < 2 ^ n ∧ x = nI t := by
  have hp : 0 < 2 ^ n := Nat.two_pow_pos _
  have h2 := two_le hn
  constructor
  · intro h
    rw [andn_i, Int32.xor_eq_zero_iff, pk_and x n (by rw [nI_tb, BitVec.toNat_ofNat, Nat.mod_eq_of_lt (by omega)])] at h
    exact ⟨_, Nat.mod_lt _ hp, h⟩
  · rintro ⟨t, ht, rfl⟩
    rw [nI_andn, adn_all ht]; rfl
theorem isLX {N : Nat} {G : Gr} {z : Int32} {ls : Nat → Int64} {M : Mem} (hG : GrOk G) (h : NetX M 1 G z ls) (x : Int32) : f_X1_areLines N 1 x M = some (bI ((x &&& (nI (2 ^ gN G - 1) ^^^ (-1))) = 0)) := by
  unfold f_X1_areLines bI
  rw [h.2.1, all_e hG.2.1]
  split <;> rfl
theorem isTM {N : Nat} {G : Gr} {z : Int32} {ls : Nat → Int64} {M : Mem} (hG : GrOk G) (h : NetM M G z ls) (x : Int32) : f_X8_isTurn N x M = some (bI ((x &&& (nI (2 ^ gN G - 1) ^^^ (-1))) = 0)) := by
  unfold f_X8_isTurn bI
  rw [h.2.1, all_e hG.2.1]
  split <;> rfl
theorem s_13 {N : Nat} (hN : 2000 ≤ N) : St_13 N Rel := by
  intro Mx Mm h
  apply rr_st
  obtain ⟨G, z, ls, hc⟩ := id h
  unfold f_X7_rings f_X8_rings
  obtain ⟨X, x1, x2, x3, x4, -⟩ := fndX (N := N) hN hc
  obtain ⟨A, a1, a2, a3, -⟩ := layM (N := N) hN hc
  rw [x1, a1, bd_s, bd_s, x3.1, a3.1]
  exact rr_ret ⟨rfl, Rel.scr hc x2 a2 x4⟩
def pto (G : Gr) (m : Nat) : Nat → Nat
  | 0 => 0
  | l + 1 => if m.testBit l then pto G m l ||| (2 ^ gA G l ||| 2 ^ gB G l) else pto G m l
theorem pto_tb {G : Gr} {m y : Nat} : ∀ n, (pto G m n).testBit y = decide (0 < cnt (fun l => m.testBit l && inc G l y) n)
  | 0 => by show Nat.testBit 0 y = _; rw [Nat.zero_testBit]; rfl
  | n + 1 => by
    show (if m.testBit n then pto G m n ||| (2 ^ gA G n ||| 2 ^ gB G n) else pto G m n).testBit y = decide (0 < cnt (fun l => m.testBit l && inc G l y) n + (m.testBit n && inc G n y).toNat)
    have ih := pto_tb (G := G) (m := m) (y := y) n
    cases c : m.testBit n
    · rw [if_neg (by decide), ih]; rfl
    · rw [if_pos rfl, Nat.testBit_or, Nat.testBit_or, Nat.testBit_two_pow, Nat.testBit_two_pow, ih, Bool.true_and]
      show (_ || inc G n y) = _
      cases inc G n y
      · simp
      · simp
theorem pto_e {G : Gr} (hG : GrOk G) (m : Nat) : pto G m (gN G) = ptR G m := Nat.eq_of_testBit_eq (fun y => by
  unfold ptR
  rw [pto_tb, mk_tb]
  by_cases c : y < gP G
  · rw [decide_eq_true c, Bool.true_and]; rfl
  · rw [decide_eq_false c, Bool.false_and]
    have : dg G m.testBit y = 0 := dg_hi hG (by omega)
    unfold dg at this
    rw [this]; rfl)
theorem ptsX {N : Nat} (hN : 2000 ≤ N) {G : Gr} {z : Int32} {ls : Nat → Int64} {M : Mem} (hG : GrOk G) (h : NetX M 1 G z ls) {m : Nat} (hm : m < 2 ^ gN G) : f_X1_pointsOf N 1 (nI m) M = some (nI (ptR G m)) := by
  have hn := hG.2.1
  have hP := hG.1
  have hm10 := lt1024 hm hn
  unfold f_X1_pointsOf
  refine lp_cnt (gN G) (fun l (a : Int32 × Int32) => a = (nI (pto G m l), nI l)) (fun l a rc hl hI => Or.inr ?_) (fun a rc hI => ?_) N 0 _ (by omega) rfl (by omega)
  · subst hI
    refine ⟨(nI (pto G m (l + 1)), nI (l + 1)), rfl, ?_⟩
    obtain ⟨-, -, k3, k4⟩ := h.2.2.2.1 l hl
    obtain ⟨-, -, -, o4, o5⟩ := hG.2.2.1 l hl
    have l10 : inb (nI l) 10 := inb_nI (by omega) (by decide)
    have cl : (nI l).toNatClampNeg = l := nI_clamp (by omega)
    dsimp only
    rw [h.2.1, if_neg (nI_ge hl (by omega))]
    simp only [jn_e, nm_e1, nI_1, ck_t l10, cl, k3, k4]
    show _ = rc (nI (if m.testBit l then _ else _), _)
    cases c : m.testBit l
    · rw [if_neg (fun e => by rw [(bitT (by omega) (by omega)).mp e] at c; exact absurd c (by decide))]; rfl
    · rw [if_pos ((bitT (by omega) (by omega)).mpr c), sh1 (show gA G l < 31 by omega), sh1 (show gB G l < 31 by omega), nI_or, nI_or]; rfl
  · subst hI
    dsimp only
    rw [h.2.1, if_pos (nI_le (a := gN G) (b := gN G) (Nat.le_refl _) (by omega)), pto_e hG]
theorem s_14 {N : Nat} (hN : 2000 ≤ N) : St_14 N Rel := by
  intro Mx Mm a0 a1 h
  apply rr_st
  obtain ⟨G, z, ls, hc⟩ := id h
  have hG := hc.1
  have hRn := rN_le hG
  unfold f_X7_ring f_X8_ring
  rw [within_e, inI_e N a1 0 2 Mm (by decide) (by decide), bd_s, bd_s, ite_bI, ite_bI]
  refine rr_ite Iff.rfl (fun hv => ?_) (fun _ => rr_ret ⟨rfl, h⟩)
  obtain ⟨X, x1, x2, x3, x4, x5⟩ := fndX (N := N) hN hc
  obtain ⟨A, m1, m2, m3, m4, m5, m6⟩ := layM (N := N) hN hc
  have hR := Rel.scr hc x2 m2 x4
  rw [x1, m1, bd_s, bd_s, x3.1, m3.1, inI_e N a0 0 (nI (rN G) - 1) A (by decide) (by rw [w_toInt]), bd_s, ite_bI]
  by_cases c : 0 ≤ a0 ∧ a0 < nI (rN G)
  · obtain ⟨i, hi, rfl⟩ := nI_of_lt (by omega) c
    rw [if_pos (show 0 ≤ nI i ∧ nI i ≤ nI (rN G) - 1 from ⟨c.1, (lt_pred (by omega) _).mpr c.2⟩), if_neg (show ¬ nI i < 0 from nI_pos (by omega)), if_pos c.2]
    have i64 : inb (nI i) 64 := inb_nI (by omega) (by decide)
    have i200 : inb (nI i) 200 := inb_nI (by omega) (by decide)
    have ci : (nI i).toNatClampNeg = i := nI_clamp (by omega)
    obtain ⟨q1, q2, -⟩ := x3.2.2 i hi
    obtain ⟨p1, p2, -⟩ := m3.2 i hi
    have hm := (rS_ok hi).1.2.1
    simp only [ck_t i64, ck_t i200, ci, q1, q2, p1, p2]
    rw [ptsX hN hG x5 hm, bd_s, lenM hN hG m6 hm, bd_s]
    by_cases c1 : a1 = 1
    · rw [if_pos c1, if_neg (by rw [c1]; decide), if_pos c1]; exact rr_ret ⟨rfl, hR⟩
    · rw [if_neg c1]
      refine rr_ite Iff.rfl (fun _ => rr_ret ⟨rfl, hR⟩) (fun _ => ?_)
      rw [if_neg c1]
      exact rr_ret ⟨rfl, hR⟩
  · rw [if_neg (show ¬ (0 ≤ a0 ∧ a0 ≤ nI (rN G) - 1) from fun q => c ⟨q.1, (lt_pred (by omega) _).mp q.2⟩)]
    by_cases c1 : a0 < 0
    · rw [if_pos c1]; exact rr_ret ⟨rfl, hR⟩
    · rw [if_neg c1, if_neg (fun q => c ⟨by rw [i_lt] at c1; rw [i_le]; omega, q⟩)]; exact rr_ret ⟨rfl, hR⟩
theorem freeM {N : Nat} (hN : 2000 ≤ N) {G : Gr} {z : Int32} {ls : Nat → Int64} {Mx Mm : Mem} (hc : Cmp G z ls Mx Mm) {t : Nat} (ht : t < 2 ^ gN G) : ∃ A, f_X8_isFree N (nI t) Mm = some (bB (!crG G t), A) ∧ ScrM Mm A ∧ RgM A G ∧ NetM A G z ls ∧ WdM A G (gG G) ∧ (crG G t = false → A.1 0 18 = nI (wsG G t).2.1 ∧ A.1 0 19 = nI (wsG G t).2.2) := by
  have hG := hc.1
  obtain ⟨A, m1, m2, m3, m4, m5, m6⟩ := layM (N := N) hN hc
  obtain ⟨B, b1, b2, b3⟩ := ratM (N := N) (am := 2 ^ gN G - 1) hN hG m6 m3 ht
  rw [crA_all] at b1 b3
  rw [wsA_all] at b3
  unfold f_X8_isFree
  rw [m1, bd_s, m4.2.1, all_e hG.2.1, b1, bd_s]
  dsimp only
  rw [ck_t (by cases crG G t <;> decide)]
  refine ⟨B, rfl, m2.tr b2.ra.scr, b2.rg m3, ?_, b2.wd m6, b3⟩
  exact m4.ag (fun j hj => b2.2.1 j (by omega) (by omega)) (fun a h1 h2 => ⟨b2.1 a (by omega), by rw [b2.2.2]⟩)
theorem ite_bB {b : Bool} {α : Type} {x y : α} : (if bB b = 0 then x else y) = if b = true then y else x := by cases b <;> rfl
theorem ft_ne : ¬ (false = true) := by decide
theorem wsG_64 {G : Gr} (hG : GrOk G) {t : Nat} (c : crG G t = false) : (wsG G t).1 ≤ 64 := by
  have hR64 := rN_le hG
  rcases (wst_ok (sk := noS) (len := rL G (gG G)) (rN G) (fun i hi => crc_fi c hi)).2.2 with q | ⟨j, j1, -, q, -⟩
  · have : wsG G t = _ := q
    rw [this]; show 0 ≤ 64; omega
  · have : wsG G t = _ := q
    rw [this]; show j + 1 ≤ 64; omega
theorem wcd_m1 {G : Gr} (hG : GrOk G) {t : Nat} : wcd G t = -1 ↔ crG G t = true := by
  unfold wcd
  cases c : crG G t
  · rw [if_neg ft_ne]
    refine ⟨fun q => ?_, fun q => absurd q ft_ne⟩
    exfalso
    have hb := wsG_64 hG c
    revert q
    split
    · exact (by decide)
    · intro q
      have := congrArg Int32.toInt q
      rw [nI_toInt (by omega)] at this
      have e1 : (-1 : Int32).toInt = -1 := rfl
      omega
  · rw [if_pos rfl]; exact ⟨fun _ => rfl, fun _ => rfl⟩
theorem s_15 {N : Nat} (hN : 2000 ≤ N) : St_15 N Rel := by
  intro Mx Mm a0 h
  apply rr_st
  obtain ⟨G, z, ls, hc⟩ := id h
  have hG := hc.1
  unfold f_X7_circled f_X8_circled
  rw [isLX hG hc.2.1, isTM hG hc.2.2.1, bd_s, bd_s, ite_bI, ite_bI]
  refine rr_ite Iff.rfl (fun hv => ?_) (fun _ => rr_ret ⟨rfl, h⟩)
  obtain ⟨t, ht, rfl⟩ := (trn hG.2.1).mp hv
  obtain ⟨X, x1, x2, x3, x4, x5⟩ := fndX (N := N) hN hc
  obtain ⟨A, m1, m2, m3, m4, m5, m6⟩ := freeM (N := N) hN hc ht
  have hR := Rel.scr hc x2 m2 x4
  rw [x1, m1, bd_s, bd_s, wrX hN hG x3 ht, bd_s]
  dsimp only
  cases c : crG G t
  · rw [if_neg (fun q => by rw [(wcd_m1 hG).mp q] at c; exact absurd c (by decide)), if_neg (show ¬ bB (!false) = 0 by decide)]
    exact rr_ret ⟨rfl, hR⟩
  · rw [if_pos ((wcd_m1 hG).mpr c), if_pos (show bB (!true) = 0 by decide)]
    exact rr_ret ⟨rfl, hR⟩
/-- the ring that gives the rate -/
noncomputable def rgc (G : Gr) (t : Nat) : Int32 := if crG G t = true then -3 else if (wsG G t).1 = 0 then -1 else nI ((wsG G t).1 - 1)
theorem ringX {N : Nat} (hN : 2000 ≤ N) {G : Gr} {z : Int32} {ls : Nat → Int64} {Mx Mm : Mem} (hc : Cmp G z ls Mx Mm) {t : Nat} (ht : t < 2 ^ gN G) : ∃ X, ScrX Mx X ∧ RgX X G ∧ Bk X G ∧ f_X7_ringOfRate N (nI t) Mx = some (rgc G t, X) := by
  have hG := hc.1
  obtain ⟨X, x1, x2, x3, x4, x5⟩ := fndX (N := N) hN hc
  unfold f_X7_ringOfRate
  rw [x1, bd_s, wrX hN hG x3 ht, bd_s]
  refine ⟨X, x2, x3, x4, ?_⟩
  unfold rgc
  cases c : crG G t
  · rw [if_neg (fun q => by rw [(wcd_m1 hG).mp q] at c; exact absurd c (by decide)), if_neg ft_ne]
    have hw : wcd G t = if (wsG G t).1 = 0 then -2 else nI ((wsG G t).1 - 1) := by unfold wcd; rw [c, if_neg ft_ne]
    rw [hw]
    have hb := wsG_64 hG c
    by_cases d : (wsG G t).1 = 0
    · rw [if_pos d, if_pos d, if_pos rfl]
    · have e2 : (-2 : Int32).toInt = -2 := rfl
      have en : (nI ((wsG G t).1 - 1)).toInt = ((wsG G t).1 - 1 : Nat) := nI_toInt (by omega)
      rw [if_neg d, if_neg d, if_neg (fun q => by have := congrArg Int32.toInt q; omega)]
  · rw [if_pos ((wcd_m1 hG).mpr c), if_pos rfl]
theorem rgc_t {G : Gr} {t : Nat} (h : crG G t = true) : rgc G t = -3 := by unfold rgc; rw [if_pos h]
theorem rgc_0 {G : Gr} {t : Nat} (h : crG G t = false) (h0 : (wsG G t).1 = 0) : rgc G t = -1 := by unfold rgc; rw [h, if_neg ft_ne, if_pos h0]
theorem rgc_j {G : Gr} {t j a b : Nat} (h : crG G t = false) (h0 : wsG G t = (j + 1, a, b)) : rgc G t = nI j := by unfold rgc; rw [h, if_neg ft_ne, h0, if_neg (show ¬ j + 1 = 0 by omega)]; rfl
theorem s_16 {N : Nat} (hN : 2000 ≤ N) : St_16 N Rel := by
  intro Mx Mm a0 a1 h
  apply rr_st
  obtain ⟨G, z, ls, hc⟩ := id h
  have hG := hc.1
  have hRn := rN_le hG
  unfold f_X7_rate f_X8_rate
  rw [isLX hG hc.2.1, isTM hG hc.2.2.1, bd_s, bd_s, ite_bI, ite_bI]
  refine rr_ite Iff.rfl (fun hv => ?_) (fun _ => rr_ret ⟨rfl, h⟩)
  obtain ⟨t, ht, rfl⟩ := (trn hG.2.1).mp hv
  rw [within_e, inI_e N a1 0 1 Mm (by decide) (by decide), bd_s, bd_s, ite_bI, ite_bI]
  refine rr_ite Iff.rfl (fun hv => ?_) (fun _ => rr_ret ⟨rfl, h⟩)
  obtain ⟨X, x2, x3, x4, x1⟩ := ringX (N := N) hN hc ht
  obtain ⟨A, m1, m2, m3, m4, m5, m6⟩ := freeM (N := N) hN hc ht
  have hR := Rel.scr hc x2 m2 x4
  rw [x1, m1, bd_s, bd_s]
  dsimp only
  cases c : crG G t
  rotate_left
  · rw [rgc_t c, if_neg (show ¬ (0 : Int32) ≤ -3 by decide), if_pos (show bB (!true) = 0 by decide)]
    exact rr_ret ⟨rfl, hR⟩
  · rw [if_neg (show ¬ bB (!false) = 0 by decide), m4.2.1]
    rcases Nat.eq_zero_or_pos (gN G) with q | q
    · have hz : rN G = 0 := by
        rcases Nat.eq_zero_or_pos (rN G) with r | r
        · exact r
        · have := rN_gN r; omega
      have hw0 : (wsG G t).1 = 0 := by unfold wsG; rw [hz]; rfl
      rw [rgc_0 c hw0, if_neg (show ¬ (0 : Int32) ≤ -1 by decide), if_pos (show nI (gN G) = 0 by rw [q]; rfl)]
      exact rr_ret ⟨rfl, hR⟩
    · have hz := gN_rN q
      obtain ⟨j, j1, -, j3, j4, j5, -⟩ := ws_ring (sk := noS) (gG_pos hG) c ⟨0, hz, rfl⟩
      have j3 : wsG G t = (j + 1, rL G (gG G) j, rA G t j) := j3
      obtain ⟨m18, m19⟩ := m6 c
      have hl : rL G (gG G) j ≤ 280 := rL_le hG (fun l hl => by have := gG_in hG hl; omega)
      have ha : rA G t j ≤ 10 := rA_le hG
      have j64 : inb (nI j) 64 := inb_nI (by omega) (by decide)
      have cj : (nI j).toNatClampNeg = j := nI_clamp (by omega)
      have hn := hG.2.1
      rw [m18, m19, rgc_j c j3, j3, if_neg (show ¬ nI (gN G) = 0 from nI_ne0 q (by omega))]
      dsimp only
      rw [if_pos (show 0 ≤ nI j from nI_pos' (by omega)), ck_t j64, cj, (x3.2.2 j j1).2.1, nm_e1, alX hG x3 j1 ht, bd_s]
      obtain ⟨v, v1, v2⟩ := cpN (N := N) (M := X) hN (a := rL G (gG G) j) (b := rA G t j) (by omega) (by omega) (Or.inl (by omega))
      have hg0 : 0 < Nat.gcd (rL G (gG G) j) (rA G t j) := Nat.gcd_pos_of_pos_right _ j4
      have hg10 : Nat.gcd (rL G (gG G) j) (rA G t j) ≤ 10 := Nat.le_trans (Nat.le_of_dvd j4 (Nat.gcd_dvd_right _ _)) ha
      have gn := nI_ne0 hg0 (show Nat.gcd (rL G (gG G) j) (rA G t j) < 2 ^ 31 by omega)
      rw [v1, bd_s, v2, if_pos (show (1 : Int32) ≤ nI (Nat.gcd (rL G (gG G) j) (rA G t j)) from nI_le (a := 1) hg0 (by omega))]
      simp only [jn_e, comM hN (show rL G (gG G) j < 2 ^ 31 by omega) (show rA G t j < 2 ^ 31 by omega), bd_s, ck_t gn]
      exact rr_ite Iff.rfl (fun _ => rr_ret ⟨rfl, hR⟩) (fun _ => rr_ret ⟨rfl, hR⟩)
/-- going down the rings: the least one that has the rate -/
theorem s_17 {N : Nat} (hN : 2000 ≤ N) : St_17 N Rel := by
  intro Mx Mm a0 h
  apply rr_st
  obtain ⟨G, z, ls, hc⟩ := id h
  have hG := hc.1
  have hRn := rN_le hG
  unfold f_X7_worst f_X8_worst
  rw [isLX hG hc.2.1, isTM hG hc.2.2.1, bd_s, bd_s, ite_bI, ite_bI]
  refine rr_ite Iff.rfl (fun hv => ?_) (fun _ => rr_ret ⟨rfl, h⟩)
  obtain ⟨t, ht, rfl⟩ := (trn hG.2.1).mp hv
  obtain ⟨X, x2, x3, x4, x1⟩ := ringX (N := N) hN hc ht
  obtain ⟨A, m1, m2, m3, m4, m5, m6⟩ := freeM (N := N) hN hc ht
  have hR := Rel.scr hc x2 m2 x4
  rw [x1, m1, bd_s, bd_s]
  dsimp only
  cases c : crG G t
  rotate_left
  · rw [rgc_t c, if_neg (show ¬ (0 : Int32) ≤ -3 by decide), if_pos (show bB (!true) = 0 by decide)]
    exact rr_ret ⟨rfl, hR⟩
  · rw [if_neg (show ¬ bB (!false) = 0 by decide), nm_e1, m3.1]
    obtain ⟨m18, m19⟩ := m6 c
    have w := wst_ok (sk := noS) (len := rL G (gG G)) (rN G) (fun i hi => crc_fi c hi)
    rcases Nat.eq_zero_or_pos (rN G) with hz | hz
    · have hw0 : (wsG G t).1 = 0 := by unfold wsG; rw [hz]; rfl
      rw [rgc_0 c hw0, if_neg (show ¬ (0 : Int32) ≤ -1 by decide), hz]
      refine lp_S (S := fun o => RR PR _ o) (fun n (a : Int32 × Int32) => a = (-1, nI 0 - 1)) (fun n a rc hJ => Or.inl ?_) N 0 _ rfl (by omega)
      subst hJ
      rw [if_pos (by decide)]
      exact rr_ret ⟨rfl, hR⟩
    · obtain ⟨j, j1, -, j3, j4, j5, j6⟩ := ws_ring (sk := noS) (gG_pos hG) c ⟨0, hz, rfl⟩
      have j3 : wsG G t = (j + 1, rL G (gG G) j, rA G t j) := j3
      have w2 := w.2.1
      have j3' : wst noS (rL G (gG G)) (rA G t) (rN G) = (j + 1, rL G (gG G) j, rA G t j) := j3
      rw [j3'] at w2
      have j64 : inb (nI j) 64 := inb_nI (by omega) (by decide)
      have cj : (nI j).toNatClampNeg = j := nI_clamp (by omega)
      rw [j3] at m18 m19
      rw [rgc_j c j3, if_pos (show 0 ≤ nI j from nI_pos' (by omega)), ck_t j64, cj, (x3.2.2 j j1).1]
      dsimp only at m18 m19
      refine lp_S (S := fun o => RR PR _ o) (fun n (a : Int32 × Int32) => n ≤ rN G ∧ a.2 = nI n - 1 ∧ (n ≤ j → a.1 = nI (rS G j))) (fun n a rc hJ => ?_) N (rN G) _ ⟨Nat.le_refl _, rfl, fun q => by omega⟩ (by omega)
      obtain ⟨f, i⟩ := a
      obtain ⟨n1, n2, n3⟩ := hJ
      dsimp only at n2 n3 ⊢
      subst n2
      cases n with
      | zero =>
        left
        rw [if_pos (by decide), n3 (by omega)]
        exact rr_ret ⟨rfl, hR⟩
      | succ n =>
        right
        have hi : n < rN G := by omega
        have i200 : inb (nI n) 200 := inb_nI (by omega) (by decide)
        have ci : (nI n).toNatClampNeg = n := nI_clamp (by omega)
        have hm := (rS_ok hi).1.2.1
        have hlm : f_X8_length N (nI (rS G n)) A = some (nI (rL G (gG G) n)) := lenM hN hG m5 hm
        have hl : rL G (gG G) j ≤ 280 := rL_le hG (fun l hl => by have := gG_in hG hl; omega)
        have ha : rA G t j ≤ 10 := rA_le hG
        have hl' : rL G (gG G) n ≤ 280 := rL_le hG (fun l hl => by have := gG_in hG hl; omega)
        have ha' : rA G t n ≤ 10 := rA_le hG
        have e1 : rL G (gG G) n * rA G t j ≤ 280 * 10 := Nat.mul_le_mul hl' ha
        have e2 : rL G (gG G) j * rA G t n ≤ 280 * 10 := Nat.mul_le_mul hl ha'
        rw [nI_pred, if_neg (nI_pos (by omega))]
        simp only [jn_e, nm_e1, ck_t i200, ci, (m3.2 n hi).1]
        rw [hlm, bd_s, fewM hN hG m3 hi ht, bd_s, m18, m19, pk_mul, pk_mul]
        have em : nI n + (-1) = nI n - 1 := Int32.add_neg_eq_sub
        by_cases d : rL G (gG G) n * rA G t j = rL G (gG G) j * rA G t n
        · rw [if_pos (by rw [d]), em]
          refine ⟨n, _, by omega, ⟨by omega, rfl, fun q => ?_⟩, rfl⟩
          by_cases e : n = j
          · rw [e]
          · have := j6 n (by omega) rfl
            omega
        · rw [if_neg (nI_ne (by omega) (by omega) d), em]
          refine ⟨n, _, by omega, ⟨by omega, rfl, fun q => ?_⟩, rfl⟩
          by_cases e : n = j
          · subst e; exact absurd rfl d
          · exact n3 (by omega)
