/-! lines without which the ratio would be less -/
theorem and_2p (m l : Nat) : m &&& 2 ^ l = if m.testBit l then 2 ^ l else 0 := Nat.eq_of_testBit_eq (fun i => by
  rw [Nat.testBit_and, Nat.testBit_two_pow]
  by_cases c : l = i
  · subst c
    cases m.testBit l
    · simp
    · rw [if_pos rfl, Nat.testBit_two_pow]; simp
  · rw [decide_eq_false c, Bool.and_false]
    cases m.testBit l
    · simp
    · rw [if_pos rfl, Nat.testBit_two_pow, decide_eq_false c])
theorem and2 {m l : Nat} (hm : m < 1024) (hl : l < 10) : (nI m &&& nI (2 ^ l)) = 0 ↔ m.testBit l = false := by
  rw [nI_and, and_2p]
  have h2 : 2 ^ l < 2 ^ 10 := Nat.pow_lt_pow_right (by omega) hl
  have hp : 0 < 2 ^ l := Nat.two_pow_pos _
  cases m.testBit l
  · exact ⟨fun _ => rfl, fun _ => rfl⟩
  · rw [if_pos rfl]
    exact ⟨fun q => absurd q (nI_ne0 hp (by omega)), fun q => absurd q (by decide)⟩
theorem lb_2 {l : Nat} : cnt (2 ^ l).testBit (l + 1) = 1 := by
  rw [tb_2, cnt_upd2 (p := fun _ => false) (m := l) (by omega) rfl (fun i hi => upB_o hi), cnt_0 _ (fun _ _ => rfl), upB_s]; rfl
theorem cnt_2 {l n : Nat} (h : l < n) : cnt (2 ^ l).testBit n = 1 := by
  rw [tb_2, cnt_upd2 (p := fun _ => false) (m := l) h rfl (fun i hi => upB_o hi), cnt_0 _ (fun _ _ => rfl), upB_s]; rfl
theorem isR_2 {G : Gr} {l : Nat} (h : l < gN G) : isR G (2 ^ l) := ⟨by have := Nat.two_pow_pos l; omega, Nat.pow_lt_pow_right (by omega) h, Or.inl (cnt_2 h)⟩
theorem lnS_2 {g : Nat → Nat} {l : Nat} : ∀ n, lnS g (2 ^ l) n = if l < n then g l else 0
  | 0 => rfl
  | n + 1 => by
    show lnS g (2 ^ l) n + (if (2 ^ l).testBit n then g n else 0) = _
    rw [lnS_2 n, Nat.testBit_two_pow]
    by_cases c : l = n
    · subst c; simp
    · rw [decide_eq_false c, if_neg (show ¬ (false = true) by decide), Nat.add_zero]
      by_cases d : l < n
      · rw [if_pos d, if_pos (by omega)]
      · rw [if_neg d, if_neg (by omega)]
/-- the ratio is 2 or more, where there are lines -/
theorem rat_ge {G : Gr} (hG : GrOk G) (hn : gN G ≠ 0) : 2 * (rat G).2 ≤ (rat G).1 := by
  obtain ⟨-, s, s1, s2, s3⟩ := rtG_ok hG
  obtain ⟨h1, h2, -⟩ := wst_ok (sk := noS) (len := rL G (gG G)) (rN G) (fun i hi => crc_fi s2 hi)
  have hr := isR_2 (G := G) (l := 0) (by omega)
  have hi := isR_lt hr
  have hS := rS_at hr
  have h3 := h2 _ hi rfl
  have eL : rL G (gG G) (cnt (isRb G) (2 ^ 0)) = gG G 0 * 2 := by
    unfold rL lnR
    rw [hS, cnt_2 (show 0 < gN G by omega), if_pos rfl, lnS_2, if_pos (by omega)]
  have eA : rA G s (cnt (isRb G) (2 ^ 0)) = 1 := by
    unfold rA alR fewN
    rw [hS, cnt_2 (show 0 < gN G by omega), if_pos rfl]
  rw [eL, eA, Nat.mul_one] at h3
  have hg := (gG_in hG (l := 0) (by omega)).1
  have hp : 0 < (rtG G (2 ^ gN G)).2 := by rw [s3]; exact h1
  have h4 : 2 * (rtG G (2 ^ gN G)).2 ≤ (rtG G (2 ^ gN G)).1 := by
    rw [s3]
    have : 2 * (wsG G s).2.2 ≤ gG G 0 * 2 * (wsG G s).2.2 := Nat.mul_le_mul_right _ (by omega)
    exact Nat.le_trans this h3
  have hr : rat G = red (rtG G (2 ^ gN G)) := by unfold rat; rw [if_neg hn]
  rw [hr]
  generalize rtG G (2 ^ gN G) = x at *
  obtain ⟨x1, x2⟩ := x
  have := (red_le (a := 2) (b := 1) (c := x1) hp).1.mpr (by rw [Nat.mul_one]; exact h4)
  rw [Nat.mul_one] at this
  exact this
/-- all rings without a line have rates less than the ratio -/
def LB (G : Gr) (l t : Nat) : Prop := ∀ i, i < rN G → (rS G i).testBit l = false → rL G (gG G) i * (rat G).2 < (rat G).1 * rA G t i
noncomputable def amL (G : Gr) (l : Nat) : Nat := adn (2 ^ gN G - 1) (2 ^ l)
theorem amL_tb {G : Gr} {l i : Nat} : (amL G l).testBit i = (decide (i < gN G) && !decide (l = i)) := by
  unfold amL; rw [adn_tb, Nat.testBit_two_pow_sub_one, Nat.testBit_two_pow]
theorem amL_lt {G : Gr} {l : Nat} : amL G l < 2 ^ gN G := adn_lt (by have := Nat.two_pow_pos (gN G); omega)
theorem adn_am {G : Gr} {l m : Nat} (hm : m < 2 ^ gN G) : adn m (amL G l) = 0 ↔ m.testBit l = false := by
  constructor
  · intro h
    cases c : m.testBit l
    · rfl
    · have := adn_zero h c
      rw [amL_tb] at this
      simp at this
  · intro h
    refine Nat.eq_of_testBit_eq (fun i => ?_)
    rw [adn_tb, amL_tb, Nat.zero_testBit]
    cases c : m.testBit i
    · rfl
    · have hi : i < gN G := by
        rcases Nat.lt_or_ge i (gN G) with q | q
        · exact q
        · rw [tb_hi hm q] at c; exact absurd c (by decide)
      have hli : l ≠ i := fun e => by rw [e, c] at h; exact absurd h (by decide)
      rw [decide_eq_true hi, decide_eq_false hli]; rfl
theorem skA_am {G : Gr} {l i : Nat} (hi : i < rN G) : skA G (amL G l) i = (rS G i).testBit l := by
  have hm := (rS_ok hi).1.2.1
  unfold skA
  cases c : (rS G i).testBit l
  · rw [(adn_am hm).mpr c]; rfl
  · exact decide_eq_true (fun q => by rw [(adn_am hm).mp q] at c; exact absurd c (by decide))
noncomputable def bnd (G : Gr) (l : Nat) : Bool := decide ((raB G (gG G) (amL G l)).1 * (rat G).2 < (rat G).1 * (raB G (gG G) (amL G l)).2)
theorem raB_pos {G : Gr} (hG : GrOk G) {g : Nat → Nat} {am : Nat} : (am = 0 ∧ raB G g am = (1, 1)) ∨ (am ≠ 0 ∧ ∃ s, s < 2 ^ gN G ∧ crB G am s = false ∧ 0 < (wsA G g am s).2.2 ∧ raB G g am = red (wsA G g am s).2 ∧ ∀ t, t < 2 ^ gN G → crB G am t = false → (wsA G g am s).2.1 * (wsA G g am t).2.2 ≤ (wsA G g am t).2.1 * (wsA G g am s).2.2) := by
  by_cases c : am = 0
  · exact Or.inl ⟨c, by unfold raB; rw [if_pos c]⟩
  · right
    have h := rtf_ok (cr := crB G am) (ab := fun t => (wsA G g am t).2) (2 ^ gN G) (fun t _ hc => ws_pos hc)
    refine ⟨c, ?_⟩
    rcases h.2 with ⟨-, q⟩ | ⟨s, s1, s2, s3⟩
    · exfalso
      have := q 0 (Nat.two_pow_pos _)
      have e0 : adn 0 am = 0 := Nat.eq_of_testBit_eq (fun i => by rw [adn_tb, Nat.zero_testBit]; rfl)
      have e1 : crA G am 0 = false := crc_f _ (fun i hi => Or.inr (by have := rA_0 hG hi; omega))
      unfold crB at this
      rw [e0, e1] at this
      exact absurd this (by decide)
    · refine ⟨s, s1, s2, ws_pos s2, by unfold raB rtB; rw [if_neg c, s3], fun t ht hc => ?_⟩
      have := h.1 t ht hc
      rw [s3] at this
      exact this
theorem bnd_iff {G : Gr} (hG : GrOk G) {l : Nat} (hl : l < gN G) : bnd G l = true ↔ ∃ t, t < 2 ^ gN G ∧ t.testBit l = false ∧ LB G l t := by
  have hge := rat_ge hG (show gN G ≠ 0 by omega)
  obtain ⟨-, -, hpos⟩ := rat_bd hG
  unfold bnd
  rw [decide_eq_true_iff]
  rcases raB_pos hG (g := gG G) (am := amL G l) with ⟨c, e⟩ | ⟨c, s, s1, s2, s3, e, s5⟩
  · rw [e]
    refine ⟨fun _ => ⟨0, Nat.two_pow_pos _, Nat.zero_testBit _, fun i hi h0 => ?_⟩, fun _ => by show 1 * _ < _ * 1; omega⟩
    exfalso
    have hm := (rS_ok hi).1
    have h1 := (adn_am hm.2.1).mpr h0
    rw [c, adn_0] at h1
    exact hm.1 h1
  · rw [e]
    have s3' := s3
    have hw : wsA G (gG G) (amL G l) s = wst (skA G (amL G l)) (rL G (gG G)) (rA G s) (rN G) := rfl
    have hcs : crA G (amL G l) s = false := by unfold crB at s2; simp at s2; exact s2.2
    have has : adn s (amL G l) = 0 := by unfold crB at s2; simp at s2; exact s2.1
    obtain ⟨-, w2, -⟩ := wst_ok (sk := skA G (amL G l)) (len := rL G (gG G)) (rN G) (fun i hi => crc_fi hcs hi)
    rw [← hw] at w2
    have hx : ((red (wsA G (gG G) (amL G l) s).2).1 * (rat G).2 < (rat G).1 * (red (wsA G (gG G) (amL G l) s).2).2) ↔ (wsA G (gG G) (amL G l) s).2.1 * (rat G).2 < (rat G).1 * (wsA G (gG G) (amL G l) s).2.2 := by
      generalize (wsA G (gG G) (amL G l) s).2 = x at *
      obtain ⟨x1, x2⟩ := x
      have := (red_le (a := (rat G).1) (b := (rat G).2) (c := x1) s3').1
      rw [← Nat.not_le, ← Nat.not_le]
      exact not_congr this
    rw [hx]
    constructor
    · intro h
      refine ⟨s, s1, (adn_am s1).mp has, fun i hi h0 => ?_⟩
      have hsk : skA G (amL G l) i = false := by rw [skA_am hi]; exact h0
      have hp : 0 < rA G s i := by
        rcases crc_fi hcs hi with q | q
        · rw [hsk] at q; exact absurd q (by decide)
        · exact q
      exact fr_lt (w2 i hi hsk) h hp
    · rintro ⟨t, t1, t2, t3⟩
      have hct : crB G (amL G l) t = false := by
        unfold crB
        rw [(adn_am t1).mpr t2]
        have : crA G (amL G l) t = false := crc_f _ (fun i hi => by
          cases c2 : skA G (amL G l) i
          · right
            rw [skA_am hi] at c2
            have := t3 i hi c2
            intro e
            rw [e, Nat.mul_zero] at this
            omega
          · exact Or.inl rfl)
        rw [this]; rfl
      have h5 := s5 t t1 hct
      refine fr_lt h5 ?_ s3
      have hct' : crA G (amL G l) t = false := by unfold crB at hct; simp at hct; exact hct.2
      rcases (wst_ok (sk := skA G (amL G l)) (len := rL G (gG G)) (rN G) (fun i hi => crc_fi hct' hi)).2.2 with q | ⟨j, j1, j2, q, -⟩
      · have q : wsA G (gG G) (amL G l) t = _ := q
        rw [q]; show 0 * _ < _ * 1; omega
      · have q : wsA G (gG G) (amL G l) t = _ := q
        rw [q]
        exact t3 j j1 (by rw [← skA_am j1]; exact j2)
/-- half of the turns is enough -/
theorem bnd_half {G : Gr} (hG : GrOk G) {l : Nat} (hl : l < gN G) : bnd G l = true ↔ ∃ t, t < 2 ^ gN G / 2 ∧ t.testBit l = false ∧ LB G l t := by
  rw [bnd_iff hG hl]
  have hp : 2 ^ gN G = 2 * 2 ^ (gN G - 1) := by rw [show gN G = (gN G - 1) + 1 by omega, Nat.pow_succ]; simp; omega
  constructor
  · rintro ⟨t, t1, t2, t3⟩
    by_cases c : t < 2 ^ gN G / 2
    · exact ⟨t, c, t2, t3⟩
    · have htop : t.testBit (gN G - 1) = true := by
        rw [Nat.testBit_eq_decide_div_mod_eq]
        have h1 : t / 2 ^ (gN G - 1) = 1 := by
          have : t / 2 ^ (gN G - 1) < 2 := Nat.div_lt_of_lt_mul (by omega)
          have : 1 ≤ t / 2 ^ (gN G - 1) := (Nat.le_div_iff_mul_le (Nat.two_pow_pos _)).mpr (by omega)
          omega
        rw [h1]; rfl
      have hlt : adn (amL G l) t < 2 ^ (gN G - 1) := by
        apply Nat.lt_pow_two_of_testBit
        intro i hi
        rw [adn_tb, amL_tb]
        by_cases e : i = gN G - 1
        · rw [e, htop]; simp
        · rw [decide_eq_false (show ¬ i < gN G by omega)]; rfl
      refine ⟨adn (amL G l) t, by omega, by rw [adn_tb, amL_tb]; simp, fun i hi h0 => ?_⟩
      have e : rA G (adn (amL G l) t) i = rA G t i := by
        unfold rA alR
        rw [← few_flip (t := t) (s := 2 ^ gN G - 1 - t) (fun j hj => flip_tb t1 hj)]
        refine few_cg (fun j hj hm => ?_)
        have hne : l ≠ j := fun e => by rw [e, hm] at h0; exact absurd h0 (by decide)
        rw [adn_tb, amL_tb, flip_tb t1 hj, decide_eq_true hj, decide_eq_false hne]; rfl
      rw [e]; exact t3 i hi h0
  · rintro ⟨t, t1, t2, t3⟩
    exact ⟨t, by omega, t2, t3⟩
theorem lessBy {N : Nat} (hN : 2000 ≤ N) {G : Gr} {M : Mem} (hG : GrOk G) (h : RgX M G) (hr : RtX M G) {t l : Nat} (ht : t < 2 ^ gN G) (hl : l < gN G) : ∃ b, f_X4_isLessBy N (nI t) (nI (2 ^ l)) M = some (bB b) ∧ (b = true ↔ LB G l t) := by
  have hRn := rN_le hG
  have hn := hG.2.1
  obtain ⟨q1, q2, q3⟩ := rat_bd hG
  unfold f_X4_isLessBy
  refine lp_S (S := fun o => ∃ b, o = some (bB b) ∧ (b = true ↔ LB G l t)) (fun k (a : Int32) => ∃ i, i + k = rN G ∧ a = nI i ∧ ∀ j, j < i → (rS G j).testBit l = false → rL G (gG G) j * (rat G).2 < (rat G).1 * rA G t j) (fun k a rc hJ => ?_) N (rN G) _ ⟨0, by omega, rfl, fun j hj => absurd hj (Nat.not_lt_zero _)⟩ (by omega)
  obtain ⟨i, hk, rfl, hI⟩ := hJ
  rw [h.1]
  cases k with
  | zero =>
    left
    have e : i = rN G := by omega
    subst e
    rw [if_pos (nI_le (Nat.le_refl _) (by omega))]
    exact ⟨true, rfl, fun _ => hI, fun _ => rfl⟩
  | succ k =>
    have hi : i < rN G := by omega
    have hm := lt1024 (rS_ok hi).1.2.1 hn
    have i64 : inb (nI i) 64 := inb_nI (by omega) (by decide)
    have ci : (nI i).toNatClampNeg = i := nI_clamp (by omega)
    have hll : rL G (gG G) i ≤ 280 := rL_le hG (fun l hl => by have := gG_in hG hl; omega)
    have ha : rA G t i ≤ 10 := rA_le hG
    have m1 : rL G (gG G) i * (rat G).2 ≤ 280 * 10 := Nat.mul_le_mul hll q2
    have m2 : (rat G).1 * rA G t i ≤ 280 * 10 := Nat.mul_le_mul q1 ha
    rw [if_neg (nI_ge hi (by omega))]
    simp only [jn_e, nm_e1, nI_1, ck_t i64, ci, (h.2.2 i hi).1, (h.2.2 i hi).2.1, hr.1, hr.2.1]
    rw [alX hG h hi ht, bd_s, pk_mul, pk_mul]
    by_cases c : (rS G i).testBit l = false
    · rw [if_pos ((and2 hm (by omega)).mpr c)]
      by_cases d : rL G (gG G) i * (rat G).2 < (rat G).1 * rA G t i
      · right
        rw [if_pos (nI_lt d (by omega))]
        refine ⟨k, _, by omega, ⟨i + 1, by omega, rfl, fun j hj h0 => ?_⟩, rfl⟩
        by_cases e : j = i
        · rw [e]; exact d
        · exact hI j (by omega) h0
      · left
        rw [if_neg (nI_nlt (by omega) (by omega))]
        exact ⟨false, rfl, fun q => absurd q (by decide), fun q => absurd (q i hi c) d⟩
    · right
      rw [if_neg (fun q => c ((and2 hm (by omega)).mp q))]
      refine ⟨k, _, by omega, ⟨i + 1, by omega, rfl, fun j hj h0 => ?_⟩, rfl⟩
      by_cases e : j = i
      · rw [e] at h0; exact absurd h0 c
      · exact hI j (by omega) h0
theorem lessX {N : Nat} (hN : 2000 ≤ N) {G : Gr} {M : Mem} (hG : GrOk G) (h : RgX M G) (hr : RtX M G) {l : Nat} (hl : l < gN G) : f_X4_isLessWithout N (nI l) M = some (bB (bnd G l)) := by
  have hn := hG.2.1
  have h2n := two_le hn
  unfold f_X4_isLessWithout
  refine lp_S (S := fun o => o = some (bB (bnd G l))) (fun k (a : Int32) => ∃ t, t + k = 2 ^ gN G / 2 ∧ a = nI t ∧ ∀ s, s < t → s.testBit l = false → ¬ LB G l s) (fun k a rc hJ => ?_) N (2 ^ gN G / 2) _ ⟨0, by omega, rfl, fun j hj => absurd hj (Nat.not_lt_zero _)⟩ (by omega)
  obtain ⟨t, hk, rfl, hI⟩ := hJ
  rw [ck_t (by decide), h.2.1, show (2 : Int32) = nI 2 from rfl, pk_div (by omega) (by omega) (by omega)]
  cases k with
  | zero =>
    left
    have e : t = 2 ^ gN G / 2 := by omega
    subst e
    rw [if_pos (nI_le (Nat.le_refl _) (by omega))]
    have : bnd G l = false := by
      cases c : bnd G l
      · rfl
      · obtain ⟨s, s1, s2, s3⟩ := (bnd_half hG hl).mp c
        exact absurd s3 (hI s s1 s2)
    rw [this]; rfl
  | succ k =>
    have ht : t < 2 ^ gN G / 2 := by omega
    rw [if_neg (nI_ge ht (by omega)), sh1 (by omega)]
    simp only [jn_e, nm_e1, nI_1]
    obtain ⟨b, b1, b2⟩ := lessBy (N := N) (t := t) hN hG h hr (by omega) hl
    rw [b1, bd_s]
    have e0 : ((nI t >>> (nI l &&& 31)) &&& 1) = 0 ↔ t.testBit l = false := by
      rw [bit1 (by omega) (by omega), ← tb_dm]
      cases t.testBit l
      · exact ⟨fun _ => rfl, fun _ => rfl⟩
      · exact ⟨fun q => absurd q (by decide), fun q => absurd q (by decide)⟩
    have nx : (∀ s, s < t + 1 → s.testBit l = false → ¬ LB G l s) → ∃ m c, m < k + 1 ∧ (∃ t, t + m = 2 ^ gN G / 2 ∧ c = nI t ∧ ∀ s, s < t → s.testBit l = false → ¬ LB G l s) ∧ rc (nI (t + 1)) = rc c := fun q => ⟨k, _, by omega, ⟨t + 1, by omega, rfl, q⟩, rfl⟩
    by_cases c : t.testBit l = false
    · rw [if_pos (e0.mpr c), ite_bB]
      cases d : b
      · right
        rw [if_neg (by decide)]
        refine nx (fun s hs h0 => ?_)
        by_cases e : s = t
        · rw [e]; intro q; rw [b2.mpr q] at d; exact absurd d (by decide)
        · exact hI s (by omega) h0
      · left
        rw [if_pos rfl, (bnd_half hG hl).mpr ⟨t, ht, c, b2.mp d⟩]; rfl
    · right
      rw [if_neg (fun q => c (e0.mp q))]
      refine nx (fun s hs h0 => ?_)
      by_cases e : s = t
      · rw [e] at h0; exact absurd h0 c
      · exact hI s (by omega) h0
theorem raB_bd {G : Gr} (hG : GrOk G) {g : Nat → Nat} (hg : ∀ l, l < gN G → g l ≤ 14) {am : Nat} : (raB G g am).1 ≤ 280 ∧ (raB G g am).2 ≤ 10 ∧ 0 < (raB G g am).2 := by
  rcases raB_pos hG (g := g) (am := am) with ⟨-, e⟩ | ⟨-, s, s1, s2, s3, e, -⟩
  · rw [e]; exact ⟨by show 1 ≤ 280; omega, by show 1 ≤ 10; omega, by show 0 < 1; omega⟩
  · rw [e]
    have hb := wst_bd (sk := skA G am) (len := rL G g) (al := rA G s) (a := 280) (b := 10) (fun j => rL_le hG hg) (fun j => rA_le hG) (by omega) (rN G)
    have hb1 : (wsA G g am s).2.1 ≤ 280 := hb.1
    have hb2 : (wsA G g am s).2.2 ≤ 10 := hb.2
    generalize (wsA G g am s).2 = x at *
    obtain ⟨x1, x2⟩ := x
    obtain ⟨g1, g2, g3, g4⟩ := red_e (a := x1) s3
    have q1 : (red (x1, x2)).1 ≤ x1 := Nat.div_le_self _ _
    have q2 : (red (x1, x2)).2 ≤ x2 := Nat.div_le_self _ _
    exact ⟨by omega, by omega, g4⟩
theorem s_19 {N : Nat} (hN : 2000 ≤ N) : St_19 N Rel := by
  intro Mx Mm h
  apply rr_st
  obtain ⟨G, z, ls, hc⟩ := id h
  have hG := hc.1
  have hn := hG.2.1
  have h2n := two_le hn
  have hp : 0 < 2 ^ gN G := Nat.two_pow_pos _
  unfold f_X7_binds f_X8_binds
  obtain ⟨X, x1, x2, x3, x4, x5, x6⟩ := rtdX (N := N) hN hc
  obtain ⟨A, m1, m2, m3, m4, m5, m6⟩ := layM (N := N) hN hc
  obtain ⟨B, b1, b2, b3, b4⟩ := rasM (N := N) (am := 2 ^ gN G - 1) hN hG m6 m3 (by omega)
  rw [raB_all] at b3 b4
  obtain ⟨q1, q2, q3⟩ := rat_bd hG
  rw [x1, m1, bd_s, bd_s, nm_e1, m4.2.1, all_e hn, b1, bd_s, nm_e1, nm_e1, b3, b4]
  have hB := m2.tr b2.scr
  have hWB := b2.wd m6
  have hRB := b2.rg m3
  refine rr_S (S := RR PR) (fun k (a : Int32 × Int32) (a' : Int32 × Int32 × Mem) => ∃ l C, l + k = gN G ∧ a = (nI (mk (bnd G) l), nI l) ∧ a' = (nI (mk (bnd G) l), nI l, C) ∧ RaA B C) (fun k a a' rc rc' hJ => ?_) N (gN G) _ _ ⟨0, B, by omega, rfl, rfl, RaA.rf⟩ (by omega)
  obtain ⟨l, C, hk, rfl, rfl, hC⟩ := hJ
  have hWC := hC.wd hWB
  have hRC := hC.rg hRB
  obtain ⟨zc, lc, hMC⟩ := hWC.1
  dsimp only
  rw [x6.2.1, hMC.2.1]
  cases k with
  | zero =>
    left
    have e : l = gN G := by omega
    subst e
    have hle : nI (gN G) ≤ nI (gN G) := nI_le (Nat.le_refl _) (by omega)
    rw [if_pos hle, if_pos hle]
    exact rr_ret ⟨rfl, Rel.scr hc x2 (hB.tr hC.scr) x5⟩
  | succ k =>
    right
    have hl : l < gN G := by omega
    have hnl : ¬ nI (gN G) ≤ nI l := nI_ge hl (by omega)
    rw [if_neg hnl, if_neg hnl, lessX hN hG x3 x4 hl, bd_s, sh1 (by omega), nI_andn]
    obtain ⟨D, d1, d2, d3, d4⟩ := rasM (N := N) (am := amL G l) hN hG hWC hRC amL_lt
    have d1' : f_X8_ratios N (nI (adn (2 ^ gN G - 1) (2 ^ l))) C = some D := d1
    rw [d1', bd_s, d3, d4, pk_mul, pk_mul]
    simp only [jn_e, nm_e1, nI_1]
    obtain ⟨p1, p2, p3⟩ := raB_bd hG (g := gG G) (am := amL G l) (fun l hl => by have := gG_in hG hl; omega)
    have e1 : (rat G).1 * (raB G (gG G) (amL G l)).2 ≤ 280 * 10 := Nat.mul_le_mul q1 p2
    have e2 : (raB G (gG G) (amL G l)).1 * (rat G).2 ≤ 280 * 10 := Nat.mul_le_mul p1 q2
    have hmk : mk (bnd G) (l + 1) = mk (bnd G) l + (if bnd G l then 2 ^ l else 0) := rfl
    have ho : nI (mk (bnd G) l) ||| nI (2 ^ l) = nI (mk (bnd G) l + 2 ^ l) := by rw [nI_or, or_add (mk_lt l)]
    have hz : nI (mk (bnd G) l) ||| 0 = nI (mk (bnd G) l) := by rw [show (0 : Int32) = nI 0 from rfl, nI_or, Nat.or_zero]
    rw [ho, hz]
    cases c : bnd G l
    · rw [c, if_neg ft_ne] at hmk
      have hmk := hmk.trans (Nat.add_zero _)
      have d : (rat G).1 * (raB G (gG G) (amL G l)).2 ≤ (raB G (gG G) (amL G l)).1 * (rat G).2 := by
        unfold bnd at c
        simp at c
        exact c
      rw [if_pos (show bB false = 0 from rfl), if_pos (nI_le d (by omega))]
      exact ⟨k, _, _, by omega, ⟨l + 1, D, by omega, rfl, rfl, hC.tr d2⟩, by rw [hmk], by rw [hmk]⟩
    · rw [c, if_pos rfl] at hmk
      have d : (raB G (gG G) (amL G l)).1 * (rat G).2 < (rat G).1 * (raB G (gG G) (amL G l)).2 := by
        unfold bnd at c
        simp at c
        exact c
      rw [if_neg (show ¬ bB true = 0 by decide), if_neg (nI_ge d (by omega))]
      exact ⟨k, _, _, by omega, ⟨l + 1, D, by omega, rfl, rfl, hC.tr d2⟩, by rw [hmk], by rw [hmk]⟩
