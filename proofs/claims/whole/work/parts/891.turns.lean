/-! turns: the other way round, one that isn't circled; greatest and least rates -/
theorem alw_flip {n m : Nat} {U : Nat → Bool} {t s : Nat} (h : ∀ l, l < n → s.testBit l = !t.testBit l) : alw n m U s = cnt m.testBit n - alw n m U t := by
  have e := cnt_split (p := m.testBit) (q := fun l => U l ^^ t.testBit l) n
  have e2 : cnt (fun l => m.testBit l && !(U l ^^ t.testBit l)) n = alw n m U s := cnt_cg _ (fun l hl => by rw [h l hl]; cases m.testBit l <;> cases U l <;> cases t.testBit l <;> rfl)
  have e3 : cnt (fun l => m.testBit l && (U l ^^ t.testBit l)) n = alw n m U t := rfl
  omega
theorem few_flip {n m : Nat} {U : Nat → Bool} {t s : Nat} (h : ∀ l, l < n → s.testBit l = !t.testBit l) : fewN n m U s = fewN n m U t := by
  have h1 := alw_flip (m := m) (U := U) h
  have h2 := alw_le (n := n) (m := m) (U := U) (t := t)
  unfold fewN
  rw [h1]
  generalize alw n m U t = a at *
  generalize cnt m.testBit n = k at *
  split
  · rfl
  · split <;> split <;> omega
theorem few_cg {n m : Nat} {U : Nat → Bool} {t s : Nat} (h : ∀ l, l < n → m.testBit l = true → s.testBit l = t.testBit l) : fewN n m U s = fewN n m U t := by
  have : alw n m U s = alw n m U t := cnt_cg _ (fun l hl => by
    cases c : m.testBit l
    · rfl
    · rw [h l hl c])
  unfold fewN
  rw [this]
theorem flip_tb {n t l : Nat} (ht : t < 2 ^ n) (hl : l < n) : (2 ^ n - 1 - t).testBit l = !t.testBit l := by
  rw [show 2 ^ n - 1 - t = 2 ^ n - (t + 1) by omega, Nat.testBit_two_pow_sub_succ ht, decide_eq_true hl, Bool.true_and]
theorem rA_flip {G : Gr} {t : Nat} (ht : t < 2 ^ gN G) : rA G (2 ^ gN G - 1 - t) = rA G t := funext (fun i => few_flip (fun l hl => flip_tb ht hl))
theorem wcd_flip {G : Gr} {t : Nat} (ht : t < 2 ^ gN G) : wcd G (2 ^ gN G - 1 - t) = wcd G t := by
  unfold wcd crG wsG
  rw [rA_flip ht]
theorem Cyc.top {G : Gr} (hG : GrOk G) {S U : Nat → Bool} (h : Cyc G S U) : (∃ l, l < gN G ∧ S l = true ∧ U l = true) ∧ ∃ l, l < gN G ∧ S l = true ∧ U l = false := by
  have hP := hG.1
  obtain ⟨l0, h0, s0⟩ := h.2.2.2
  obtain ⟨-, -, -, o4, o5⟩ := hG.2.2.1 l0 h0
  have hd0 : 0 < dg G S (gA G l0) := cnt_pos h0 (by simp [s0, inc])
  obtain ⟨k, ⟨k1, k2⟩, k3⟩ := pk_least (fun k => k ≤ 10 ∧ 0 < dg G S (10 - k)) ⟨10 - gA G l0, by omega, by rw [show 10 - (10 - gA G l0) = gA G l0 by omega]; exact hd0⟩
  obtain ⟨x, hx⟩ : ∃ x, x = 10 - k := ⟨_, rfl⟩
  rw [← hx] at k2
  have hy : ∀ y, x < y → dg G S y = 0 := by
    intro y hy
    rcases Nat.lt_or_ge y (gP G) with q | q
    · have := k3 (10 - y) (by omega)
      rcases Nat.eq_zero_or_pos (dg G S y) with r | r
      · exact r
      · exact absurd ⟨by omega, by rw [show 10 - (10 - y) = y by omega]; exact r⟩ this
    · exact dg_hi hG q
  have hB : ∀ l, l < gN G → S l = true → ¬ gA G l = x := by
    intro l hl sl e
    have := (hG.2.2.1 l hl).2.2.2.1
    have h1 := hy (gB G l) (by omega)
    have : 0 < dg G S (gB G l) := cnt_pos hl (by simp [sl, inc])
    omega
  have e1 := dg_sum hG (S := S) (U := U) x
  have e2 := h.2.1 x
  have e3 := h.1 x
  constructor
  · obtain ⟨l, l1, l2⟩ := cnt_ex (p := fun l => S l && ent G U l x) (gN G) (show 0 < din G S U x by omega)
    simp at l2
    refine ⟨l, l1, l2.1, ?_⟩
    cases c : U l
    · exfalso
      have := l2.2
      unfold ent at this
      rw [c] at this
      simp at this
      exact hB l l1 l2.1 this
    · rfl
  · obtain ⟨l, l1, l2⟩ := cnt_ex (p := fun l => S l && lea G U l x) (gN G) (show 0 < dou G S U x by omega)
    simp at l2
    refine ⟨l, l1, l2.1, ?_⟩
    cases c : U l
    · rfl
    · exfalso
      have := l2.2
      unfold lea at this
      rw [c] at this
      simp at this
      exact hB l l1 l2.1 this
/-- a ring of a turn is circled just if all of it goes along, or nothing -/
theorem few_pos {n m : Nat} {U : Nat → Bool} {t : Nat} (h1 : ∃ l, l < n ∧ m.testBit l = true ∧ (U l ^^ t.testBit l) = true) (h2 : ∃ l, l < n ∧ m.testBit l = true ∧ (U l ^^ t.testBit l) = false) : 0 < fewN n m U t := by
  obtain ⟨l, l1, l2, l3⟩ := h1
  obtain ⟨k, k1, k2, k3⟩ := h2
  have e := cnt_split (p := m.testBit) (q := fun l => U l ^^ t.testBit l) n
  have e3 : cnt (fun l => m.testBit l && (U l ^^ t.testBit l)) n = alw n m U t := rfl
  have p1 : 0 < alw n m U t := cnt_pos l1 (by simp only [l2, l3]; rfl)
  have p2 : 0 < cnt (fun l => m.testBit l && !(U l ^^ t.testBit l)) n := cnt_pos k1 (by simp only [k2, k3]; rfl)
  unfold fewN
  split
  · omega
  · split <;> omega
theorem rA_0 {G : Gr} (hG : GrOk G) {i : Nat} (hi : i < rN G) : 0 < rA G 0 i := by
  obtain ⟨⟨-, -, r3⟩, -⟩ := rS_ok hi
  unfold rA alR
  rcases r3 with q | q
  · unfold fewN; rw [if_pos q]; omega
  · have hc := dirR_c q
    obtain ⟨⟨l, l1, l2, l3⟩, k, k1, k2, k3⟩ := hc.top hG
    exact few_pos ⟨l, l1, l2, by rw [l3, Nat.zero_testBit]; rfl⟩ ⟨k, k1, k2, by rw [k3, Nat.zero_testBit]; rfl⟩
theorem crc_f {sk : Nat → Bool} {al : Nat → Nat} : ∀ n, (∀ i, i < n → sk i = true ∨ al i ≠ 0) → crc sk al n = false
  | 0, _ => rfl
  | n + 1, h => crc_s (crc_f n (fun i hi => h i (by omega))) (h n (by omega))
theorem crc_fi {sk : Nat → Bool} {al : Nat → Nat} {n : Nat} (h : crc sk al n = false) {i : Nat} (hi : i < n) : sk i = true ∨ 0 < al i := by
  cases c : sk i
  · right
    rcases Nat.eq_zero_or_pos (al i) with q | q
    · have := crc_up (crc_1 c q) n (by omega)
      rw [h] at this; exact absurd this (by decide)
    · exact q
  · exact Or.inl rfl
theorem crc_ti {sk : Nat → Bool} {al : Nat → Nat} : ∀ n, crc sk al n = true → ∃ i, i < n ∧ sk i = false ∧ al i = 0
  | 0, h => absurd (show false = true from h) (by decide)
  | n + 1, h => by
    have h' : (crc sk al n || (!sk n && decide (al n = 0))) = true := h
    cases c : crc sk al n
    · rw [c] at h'
      simp at h'
      exact ⟨n, by omega, h'⟩
    · obtain ⟨i, i1, i2⟩ := crc_ti n c
      exact ⟨i, by omega, i2⟩
theorem crG_0 {G : Gr} (hG : GrOk G) : crG G 0 = false := crc_f _ (fun i hi => Or.inr (by have := rA_0 hG hi; omega))
/-! fractions -/
theorem fr_lt {a b A B c d : Nat} (h1 : a * B ≤ A * b) (h2 : A * d < c * B) (hb : 0 < b) : a * d < c * b := by
  apply Nat.lt_of_mul_lt_mul_right (a := B)
  have e1 : a * d * B = a * B * d := by ac_rfl
  have e2 : A * b * d = A * d * b := by ac_rfl
  have e3 : c * b * B = c * B * b := by ac_rfl
  have h3 : a * B * d ≤ A * b * d := Nat.mul_le_mul_right d h1
  have h4 : A * d * b < c * B * b := Nat.mul_lt_mul_of_pos_right h2 hb
  omega
theorem fr_le {a b A B c d : Nat} (h1 : a * B ≤ A * b) (h2 : A * d ≤ c * B) (hB : 0 < B) : a * d ≤ c * b := by
  apply Nat.le_of_mul_le_mul_right (c := B) _ hB
  have e1 : a * d * B = a * B * d := by ac_rfl
  have e2 : A * b * d = A * d * b := by ac_rfl
  have e3 : c * b * B = c * B * b := by ac_rfl
  have h3 : a * B * d ≤ A * b * d := Nat.mul_le_mul_right d h1
  have h4 : A * d * b ≤ c * B * b := Nat.mul_le_mul_right b h2
  omega
theorem wst_s {sk : Nat → Bool} {len al : Nat → Nat} (i : Nat) : wst sk len al (i + 1) = if sk i = true ∨ len i * (wst sk len al i).2.2 ≤ (wst sk len al i).2.1 * al i then wst sk len al i else (i + 1, len i, al i) := rfl
/-- the greatest rate: no less than any, and the first that is it -/
theorem wst_ok {sk : Nat → Bool} {len al : Nat → Nat} : ∀ n, (∀ i, i < n → sk i = true ∨ 0 < al i) → 0 < (wst sk len al n).2.2 ∧ (∀ i, i < n → sk i = false → len i * (wst sk len al n).2.2 ≤ (wst sk len al n).2.1 * al i) ∧ (wst sk len al n = (0, 0, 1) ∨ ∃ j, j < n ∧ sk j = false ∧ wst sk len al n = (j + 1, len j, al j) ∧ ∀ i, i < j → sk i = false → len i * al j < len j * al i)
  | 0, _ => ⟨Nat.one_pos, fun i hi => absurd hi (Nat.not_lt_zero _), Or.inl rfl⟩
  | n + 1, h => by
    obtain ⟨h1, h2, h3⟩ := wst_ok (len := len) n (fun i hi => h i (by omega))
    rw [wst_s]
    by_cases c : sk n = true ∨ len n * (wst sk len al n).2.2 ≤ (wst sk len al n).2.1 * al n
    · rw [if_pos c]
      refine ⟨h1, fun i hi si => ?_, ?_⟩
      · by_cases e : i = n
        · rw [e] at si ⊢
          rcases c with c | c
          · rw [si] at c; exact absurd c (by decide)
          · exact c
        · exact h2 i (by omega) si
      · rcases h3 with h3 | ⟨j, j1, j2⟩
        · exact Or.inl h3
        · exact Or.inr ⟨j, by omega, j2⟩
    · rw [if_neg c]
      have c1 : sk n = false := by
        cases q : sk n
        · rfl
        · exact absurd (Or.inl q) c
      have c2 : (wst sk len al n).2.1 * al n < len n * (wst sk len al n).2.2 := by
        rcases Nat.lt_or_ge ((wst sk len al n).2.1 * al n) (len n * (wst sk len al n).2.2) with q | q
        · exact q
        · exact absurd (Or.inr q) c
      have hn : 0 < al n := by
        rcases h n (by omega) with q | q
        · rw [c1] at q; exact absurd q (by decide)
        · exact q
      have st : ∀ i, i < n → sk i = false → len i * al n < len n * al i := fun i hi si => by
        rcases h i (by omega) with q | q
        · rw [si] at q; exact absurd q (by decide)
        · exact fr_lt (h2 i hi si) c2 q
      refine ⟨hn, fun i hi si => ?_, Or.inr ⟨n, by omega, c1, rfl, st⟩⟩
      by_cases e : i = n
      · rw [e]; exact Nat.le_refl _
      · exact Nat.le_of_lt (st i (by omega) si)
theorem rtf_s {cr : Nat → Bool} {ab : Nat → Nat × Nat} (t : Nat) : rtf cr ab (t + 1) = if cr t = true ∨ (rtf cr ab t).1 * (ab t).2 ≤ (ab t).1 * (rtf cr ab t).2 then rtf cr ab t else ab t := rfl
theorem rtf_ok {cr : Nat → Bool} {ab : Nat → Nat × Nat} : ∀ n, (∀ t, t < n → cr t = false → 0 < (ab t).2) → (∀ t, t < n → cr t = false → (rtf cr ab n).1 * (ab t).2 ≤ (ab t).1 * (rtf cr ab n).2) ∧ (rtf cr ab n = (1, 0) ∧ (∀ t, t < n → cr t = true) ∨ ∃ s, s < n ∧ cr s = false ∧ rtf cr ab n = ab s)
  | 0, _ => ⟨fun i hi => absurd hi (Nat.not_lt_zero _), Or.inl ⟨rfl, fun i hi => absurd hi (Nat.not_lt_zero _)⟩⟩
  | n + 1, h => by
    obtain ⟨h1, h2⟩ := rtf_ok n (fun i hi => h i (by omega))
    rw [rtf_s]
    by_cases c : cr n = true ∨ (rtf cr ab n).1 * (ab n).2 ≤ (ab n).1 * (rtf cr ab n).2
    · rw [if_pos c]
      refine ⟨fun t ht st => ?_, ?_⟩
      · by_cases e : t = n
        · rw [e] at st ⊢
          rcases c with c | c
          · rw [st] at c; exact absurd c (by decide)
          · exact c
        · exact h1 t (by omega) st
      · rcases h2 with ⟨h2, h3⟩ | ⟨s, s1, s2⟩
        · refine Or.inl ⟨h2, fun t ht => ?_⟩
          by_cases e : t = n
          · rw [e]
            rcases c with c | c
            · exact c
            · cases q : cr n
              · have := h n (by omega) q
                rw [h2] at c
                simp at c
                omega
              · rfl
          · exact h3 t (by omega)
        · exact Or.inr ⟨s, by omega, s2⟩
    · rw [if_neg c]
      have c1 : cr n = false := by
        cases q : cr n
        · rfl
        · exact absurd (Or.inl q) c
      have c2 : (ab n).1 * (rtf cr ab n).2 < (rtf cr ab n).1 * (ab n).2 := by
        rcases Nat.lt_or_ge ((ab n).1 * (rtf cr ab n).2) ((rtf cr ab n).1 * (ab n).2) with q | q
        · exact q
        · exact absurd (Or.inr q) c
      refine ⟨fun t ht st => ?_, Or.inr ⟨n, by omega, c1, rfl⟩⟩
      by_cases e : t = n
      · rw [e]; exact Nat.le_refl _
      · have h3 := h1 t (by omega) st
        have h4 := h t (by omega) st
        generalize rtf cr ab n = x at *
        have hx : 0 < x.1 := by
          rcases Nat.eq_zero_or_pos x.1 with q | q
          · rw [q, Nat.zero_mul] at c2; omega
          · exact q
        have hy : 0 < x.2 := by
          rcases Nat.eq_zero_or_pos x.2 with q | q
          · rw [q, Nat.mul_zero] at h3
            have := Nat.mul_pos hx h4
            omega
          · exact q
        exact fr_le (A := x.1) (B := x.2) (Nat.le_of_lt c2) h3 hy
theorem red_e {a b : Nat} (h : 0 < b) : 0 < Nat.gcd a b ∧ a = (red (a, b)).1 * Nat.gcd a b ∧ b = (red (a, b)).2 * Nat.gcd a b ∧ 0 < (red (a, b)).2 := by
  have hg : 0 < Nat.gcd a b := Nat.gcd_pos_of_pos_right a h
  refine ⟨hg, (Nat.div_mul_cancel (Nat.gcd_dvd_left a b)).symm, (Nat.div_mul_cancel (Nat.gcd_dvd_right a b)).symm, ?_⟩
  exact Nat.div_pos (Nat.le_of_dvd h (Nat.gcd_dvd_right a b)) hg
theorem mul3 {x y g : Nat} (hg : 0 < g) : (x * g ≤ y * g ↔ x ≤ y) := ⟨fun h => Nat.le_of_mul_le_mul_right h hg, fun h => Nat.mul_le_mul_right g h⟩
/-- compared with a fraction, or with the same in lowest terms -/
theorem red_le {a b c d : Nat} (hd : 0 < d) : (a * (red (c, d)).2 ≤ (red (c, d)).1 * b ↔ a * d ≤ c * b) ∧ ((red (c, d)).1 * b ≤ a * (red (c, d)).2 ↔ c * b ≤ a * d) := by
  obtain ⟨hg, e1, e2, e3⟩ := red_e (a := c) hd
  generalize (red (c, d)).1 = x at *
  generalize (red (c, d)).2 = y at *
  generalize Nat.gcd c d = g at *
  have q1 : a * d = a * y * g := by rw [e2]; ac_rfl
  have q2 : c * b = x * b * g := by rw [e1]; ac_rfl
  rw [q1, q2]
  exact ⟨(mul3 hg).symm, (mul3 hg).symm⟩
theorem red_g {a b : Nat} (h : 0 < b) : Nat.gcd (red (a, b)).1 (red (a, b)).2 = 1 := Nat.gcd_div_gcd_div_gcd_of_pos_right h
theorem gN_rN {G : Gr} (h : 0 < gN G) : 0 < rN G := by
  have h1 : isR G 1 := ⟨by omega, Nat.one_lt_two_pow (by omega), Or.inl (by
    have e : (1 : Nat).testBit = upB (fun _ => false) 0 true := tb_2 0
    rw [e, cnt_upd2 (p := fun _ => false) (m := 0) h rfl (fun l hl => upB_o hl), cnt_0 _ (fun _ _ => rfl), upB_s]; rfl)⟩
  have := isR_lt h1
  omega
theorem rN_gN {G : Gr} (h : 0 < rN G) : 0 < gN G := by
  rcases Nat.eq_zero_or_pos (gN G) with q | q
  · exfalso
    obtain ⟨⟨r1, r2, -⟩, -⟩ := rS_ok h
    rw [q] at r2
    omega
  · exact q
theorem gG_pos {G : Gr} (hG : GrOk G) : ∀ l, l < gN G → 1 ≤ gG G l := fun l hl => (gG_in hG hl).1
/-- a turn that isn't circled, where there are lines: its rate, and the ring that gives it -/
theorem ws_ring {G : Gr} {g : Nat → Nat} {sk : Nat → Bool} {t : Nat} (hg : ∀ l, l < gN G → 1 ≤ g l) (hc : crc sk (rA G t) (rN G) = false) (hs : ∃ i, i < rN G ∧ sk i = false) : ∃ j, j < rN G ∧ sk j = false ∧ wst sk (rL G g) (rA G t) (rN G) = (j + 1, rL G g j, rA G t j) ∧ 0 < rA G t j ∧ 0 < rL G g j ∧ ∀ i, i < j → sk i = false → rL G g i * rA G t j < rL G g j * rA G t i := by
  obtain ⟨h1, h2, h3⟩ := wst_ok (sk := sk) (len := rL G g) (rN G) (fun i hi => crc_fi hc hi)
  obtain ⟨i, i1, i2⟩ := hs
  rcases h3 with h3 | ⟨j, j1, j2, j3, j4⟩
  · exfalso
    have h4 := h2 i i1 i2
    rw [h3] at h4
    have := rL_pos hg i1
    simp at h4
    omega
  · refine ⟨j, j1, j2, j3, ?_, rL_pos hg j1, j4⟩
    rw [j3] at h1
    exact h1
theorem rtG_ok {G : Gr} (hG : GrOk G) : (∀ t, t < 2 ^ gN G → crG G t = false → (rtG G (2 ^ gN G)).1 * (wsG G t).2.2 ≤ (wsG G t).2.1 * (rtG G (2 ^ gN G)).2) ∧ ∃ s, s < 2 ^ gN G ∧ crG G s = false ∧ rtG G (2 ^ gN G) = (wsG G s).2 := by
  have h := rtf_ok (cr := crG G) (ab := fun t => (wsG G t).2) (2 ^ gN G) (fun t _ hc => (wst_ok (len := rL G (gG G)) (rN G) (fun i hi => crc_fi hc hi)).1)
  refine ⟨h.1, ?_⟩
  rcases h.2 with ⟨-, q⟩ | q
  · have := q 0 (Nat.two_pow_pos _)
    rw [crG_0 hG] at this; exact absurd this (by decide)
  · exact q
