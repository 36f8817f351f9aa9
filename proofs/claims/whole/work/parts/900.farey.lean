/-! fractions that come next: two neighbours of x of y that come nearer -/
def FI (x y n P a b c d : Nat) : Prop := b * c = a * d + 1 ∧ 1 ≤ b ∧ b ≤ n ∧ d ≤ n ∧ y * a < x * b ∧ x * d < y * c ∧ x ≤ P * y ∧ ∀ u v, 1 ≤ v → v ≤ n → x * v ≠ y * u
theorem FI.ba {x y n P a b c d : Nat} (h : FI x y n P a b c d) : a < P * b := by
  obtain ⟨-, -, -, -, h5, -, h7, -⟩ := h
  apply Nat.lt_of_mul_lt_mul_left (a := y)
  have : x * b ≤ P * y * b := Nat.mul_le_mul_right b h7
  have e : P * y * b = y * (P * b) := by ac_rfl
  omega
theorem FI.bc {x y n P a b c d : Nat} (h : FI x y n P a b c d) : c ≤ P * d + 1 := by
  have ha := h.ba
  obtain ⟨h1, h2, -⟩ := h
  rcases Nat.eq_zero_or_pos d with q | q
  · subst q
    have e : b * c = 1 := by rw [h1, Nat.mul_zero]
    have : c ≤ b * c := Nat.le_mul_of_pos_left c h2
    omega
  · have h3 : a * d + d ≤ P * b * d := by
      have : (a + 1) * d ≤ P * b * d := Nat.mul_le_mul_right d ha
      rw [Nat.add_mul, Nat.one_mul] at this
      exact this
    have h4 : b * c ≤ b * (P * d) := by
      have e : P * b * d = b * (P * d) := by ac_rfl
      omega
    have := Nat.le_of_mul_le_mul_left h4 h2
    omega
/-- a of b comes nearer -/
theorem FI.up {x y n P a b c d k : Nat} (h : FI x y n P a b c d) (hk : k * (y * c - x * d) < x * b - y * a) (hn : b + k * d ≤ n) : FI x y n P (a + k * c) (b + k * d) c d ∧ x * (b + k * d) - y * (a + k * c) = (x * b - y * a) - k * (y * c - x * d) := by
  obtain ⟨h1, h2, h3, h4, h5, h6, h7, h8⟩ := h
  have e1 : x * (b + k * d) = x * b + k * (x * d) := by rw [Nat.mul_add]; congr 1; ac_rfl
  have e2 : y * (a + k * c) = y * a + k * (y * c) := by rw [Nat.mul_add]; congr 1; ac_rfl
  have e3 : k * (y * c - x * d) = k * (y * c) - k * (x * d) := Nat.mul_sub k _ _
  have e4 : k * (x * d) ≤ k * (y * c) := Nat.mul_le_mul_left k (Nat.le_of_lt h6)
  refine ⟨⟨?_, by omega, hn, h4, ?_, h6, h7, h8⟩, ?_⟩
  · have e5 : (b + k * d) * c = b * c + k * (c * d) := by rw [Nat.add_mul]; congr 1; ac_rfl
    have e6 : (a + k * c) * d = a * d + k * (c * d) := by rw [Nat.add_mul]; congr 1; ac_rfl
    omega
  · omega
  · omega
/-- c of d comes nearer -/
theorem FI.dn {x y n P a b c d k : Nat} (h : FI x y n P a b c d) (hk : k * (x * b - y * a) < y * c - x * d) (hn : d + k * b ≤ n) : FI x y n P a b (c + k * a) (d + k * b) ∧ y * (c + k * a) - x * (d + k * b) = (y * c - x * d) - k * (x * b - y * a) := by
  obtain ⟨h1, h2, h3, h4, h5, h6, h7, h8⟩ := h
  have e1 : x * (d + k * b) = x * d + k * (x * b) := by rw [Nat.mul_add]; congr 1; ac_rfl
  have e2 : y * (c + k * a) = y * c + k * (y * a) := by rw [Nat.mul_add]; congr 1; ac_rfl
  have e3 : k * (x * b - y * a) = k * (x * b) - k * (y * a) := Nat.mul_sub k _ _
  have e4 : k * (y * a) ≤ k * (x * b) := Nat.mul_le_mul_left k (Nat.le_of_lt h5)
  refine ⟨⟨?_, h2, h3, hn, h5, ?_, h7, h8⟩, ?_⟩
  · have e5 : b * (c + k * a) = b * c + k * (a * b) := by rw [Nat.mul_add]; congr 1; ac_rfl
    have e6 : a * (d + k * b) = a * d + k * (a * b) := by rw [Nat.mul_add]; congr 1; ac_rfl
    omega
  · omega
  · omega
/-- not yet at the end: the two are never alike -/
theorem FI.ne {x y n P a b c d : Nat} (h : FI x y n P a b c d) (hn : b + d ≤ n) : x * b - y * a ≠ y * c - x * d := by
  obtain ⟨h1, h2, h3, h4, h5, h6, h7, h8⟩ := h
  intro e
  refine h8 (a + c) (b + d) (by omega) hn ?_
  rw [Nat.mul_add, Nat.mul_add]
  omega
/-- at the end nothing lies between -/
theorem FI.lo {x y n P a b c d u v : Nat} (h : FI x y n P a b c d) (hn : n < b + d) (hv : v ≤ n) (hu : y * u < x * v) : u * b ≤ a * v := by
  obtain ⟨h1, h2, h3, h4, h5, h6, h7, h8⟩ := h
  rcases Nat.lt_or_ge (a * v) (u * b) with q | q
  · exfalso
    have r : u * d < c * v := by
      apply Nat.lt_of_mul_lt_mul_left (a := y)
      have hd : y * (u * d) ≤ x * v * d := by
        have : y * u * d ≤ x * v * d := Nat.mul_le_mul_right d (Nat.le_of_lt hu)
        rw [← Nat.mul_assoc]; exact this
      have hvpos : 0 < v := by
        rcases Nat.eq_zero_or_pos v with z | z
        · rw [z, Nat.mul_zero] at hu; omega
        · exact z
      have h9 : x * d * v < y * c * v := Nat.mul_lt_mul_of_pos_right h6 hvpos
      have e1 : x * v * d = x * d * v := by ac_rfl
      have e2 : y * (c * v) = y * c * v := by ac_rfl
      omega
    have e1 : b * c * v = a * d * v + v := by rw [h1, Nat.add_mul, Nat.one_mul]
    have e2 : b * (u * d + 1) ≤ b * (c * v) := Nat.mul_le_mul_left b r
    have e3 : d * (a * v + 1) ≤ d * (u * b) := Nat.mul_le_mul_left d q
    rw [Nat.mul_add, Nat.mul_one] at e2 e3
    have e4 : b * (c * v) = b * c * v := by ac_rfl
    have e5 : d * (a * v) = a * d * v := by ac_rfl
    have e6 : d * (u * b) = b * (u * d) := by ac_rfl
    omega
  · exact q
theorem FI.hi {x y n P a b c d u v : Nat} (h : FI x y n P a b c d) (hn : n < b + d) (hv : 1 ≤ v) (hv2 : v ≤ n) (hu : x * v < y * u) : c * v ≤ u * d := by
  obtain ⟨h1, h2, h3, h4, h5, h6, h7, h8⟩ := h
  rcases Nat.lt_or_ge (u * d) (c * v) with q | q
  · exfalso
    have r : a * v < u * b := by
      apply Nat.lt_of_mul_lt_mul_left (a := y)
      have hd : y * a * v < x * b * v := Nat.mul_lt_mul_of_pos_right h5 hv
      have h9 : x * v * b < y * u * b := Nat.mul_lt_mul_of_pos_right hu h2
      have e1 : x * v * b = x * b * v := by ac_rfl
      have e2 : y * (a * v) = y * a * v := by ac_rfl
      have e3 : y * (u * b) = y * u * b := by ac_rfl
      omega
    have e1 : b * c * v = a * d * v + v := by rw [h1, Nat.add_mul, Nat.one_mul]
    have e2 : b * (u * d + 1) ≤ b * (c * v) := Nat.mul_le_mul_left b q
    have e3 : d * (a * v + 1) ≤ d * (u * b) := Nat.mul_le_mul_left d r
    rw [Nat.mul_add, Nat.mul_one] at e2 e3
    have e4 : b * (c * v) = b * c * v := by ac_rfl
    have e5 : d * (a * v) = a * d * v := by ac_rfl
    have e6 : d * (u * b) = b * (u * d) := by ac_rfl
    omega
  · exact q
theorem FI.g1 {x y n P a b c d : Nat} (h : FI x y n P a b c d) : Nat.gcd a b = 1 ∧ Nat.gcd c d = 1 := by
  obtain ⟨h1, -⟩ := h
  constructor
  · apply Nat.eq_one_of_dvd_one
    have k1 : Nat.gcd a b ∣ b * c := Nat.dvd_trans (Nat.gcd_dvd_right a b) (Nat.dvd_mul_right b c)
    have k2 : Nat.gcd a b ∣ a * d := Nat.dvd_trans (Nat.gcd_dvd_left a b) (Nat.dvd_mul_right a d)
    rw [h1] at k1
    exact (Nat.dvd_add_right k2).mp k1
  · apply Nat.eq_one_of_dvd_one
    have k1 : Nat.gcd c d ∣ b * c := Nat.dvd_trans (Nat.gcd_dvd_left c d) (Nat.dvd_mul_left c b)
    have k2 : Nat.gcd c d ∣ a * d := Nat.dvd_trans (Nat.gcd_dvd_right c d) (Nat.dvd_mul_left d a)
    rw [h1] at k1
    exact (Nat.dvd_add_right k2).mp k1
/-- after k rounds: at the end, or far on -/
def FQ (x y n k a b c d : Nat) : Prop := n < b + d ∨ b + d ≤ n ∧ 2 ^ k ≤ b + d ∧ (k = 0 ∧ b = 1 ∧ d = 0 ∨ y * c - x * d < x * b - y * a)
def upN (x y n a b c d : Nat) : Nat := if d = 0 then (x * b - y * a - 1) / (y * c - x * d) else (if (x * b - y * a - 1) / (y * c - x * d) ≤ (n - b) / d then (x * b - y * a - 1) / (y * c - x * d) else (n - b) / d)
def dnN (x y n a b c d : Nat) : Nat := if (y * c - x * d - 1) / (x * b - y * a) ≤ (n - d) / b then (y * c - x * d - 1) / (x * b - y * a) else (n - d) / b
theorem div_pr {a b : Nat} (hb : 0 < b) (ha : 0 < a) : (a - 1) / b * b < a ∧ a - (a - 1) / b * b ≤ b := by
  have h1 := Nat.div_add_mod (a - 1) b
  have h2 := Nat.mod_lt (a - 1) hb
  have e : b * ((a - 1) / b) = (a - 1) / b * b := Nat.mul_comm _ _
  omega
theorem upN_ok {x y n P a b c d : Nat} (h : FI x y n P a b c d) : upN x y n a b c d * (y * c - x * d) < x * b - y * a ∧ b + upN x y n a b c d * d ≤ n ∧ (b + upN x y n a b c d * d + d ≤ n → upN x y n a b c d = (x * b - y * a - 1) / (y * c - x * d)) := by
  obtain ⟨h1, h2, h3, h4, h5, h6, h7, h8⟩ := h
  obtain ⟨p1, p2⟩ := div_pr (a := x * b - y * a) (b := y * c - x * d) (by omega) (by omega)
  unfold upN
  by_cases q : d = 0
  · rw [if_pos q, q]
    rw [q] at p1
    exact ⟨p1, by omega, fun _ => rfl⟩
  · rw [if_neg q]
    have hd : 0 < d := by omega
    have m1 := Nat.div_mul_le_self (n - b) d
    by_cases r : (x * b - y * a - 1) / (y * c - x * d) ≤ (n - b) / d
    · rw [if_pos r]
      have := Nat.mul_le_mul_right d r
      exact ⟨p1, by omega, fun _ => rfl⟩
    · rw [if_neg r]
      have m2 : (n - b) / d * (y * c - x * d) ≤ (x * b - y * a - 1) / (y * c - x * d) * (y * c - x * d) := Nat.mul_le_mul_right _ (by omega)
      refine ⟨by omega, by omega, fun z => ?_⟩
      exfalso
      have := Nat.lt_mul_of_div_lt (Nat.lt_succ_self ((n - b) / d)) hd
      rw [Nat.succ_mul] at this
      omega
theorem dnN_ok {x y n P a b c d : Nat} (h : FI x y n P a b c d) : dnN x y n a b c d * (x * b - y * a) < y * c - x * d ∧ d + dnN x y n a b c d * b ≤ n ∧ (d + dnN x y n a b c d * b + b ≤ n → dnN x y n a b c d = (y * c - x * d - 1) / (x * b - y * a)) := by
  obtain ⟨h1, h2, h3, h4, h5, h6, h7, h8⟩ := h
  obtain ⟨p1, p2⟩ := div_pr (a := y * c - x * d) (b := x * b - y * a) (by omega) (by omega)
  unfold dnN
  have m1 := Nat.div_mul_le_self (n - d) b
  by_cases r : (y * c - x * d - 1) / (x * b - y * a) ≤ (n - d) / b
  · rw [if_pos r]
    have := Nat.mul_le_mul_right b r
    exact ⟨p1, by omega, fun _ => rfl⟩
  · rw [if_neg r]
    have m2 : (n - d) / b * (x * b - y * a) ≤ (y * c - x * d - 1) / (x * b - y * a) * (x * b - y * a) := Nat.mul_le_mul_right _ (by omega)
    refine ⟨by omega, by omega, fun z => ?_⟩
    exfalso
    have := Nat.lt_mul_of_div_lt (Nat.lt_succ_self ((n - d) / b)) (by omega : 0 < b)
    rw [Nat.succ_mul] at this
    omega
/-- one round -/
theorem FQ.st {x y n P k a b c d : Nat} (h : FI x y n P a b c d) (hq : FQ x y n k a b c d) {u w : Nat} (hu : u = upN x y n a b c d) (hw : w = dnN x y n (a + u * c) (b + u * d) c d) : FI x y n P (a + u * c) (b + u * d) c d ∧ FI x y n P (a + u * c) (b + u * d) (c + w * (a + u * c)) (d + w * (b + u * d)) ∧ ((n < b + d ∧ u = 0 ∧ w = 0) ∨ (b + d ≤ n ∧ (0 < u ∨ 0 < w) ∧ FQ x y n (k + 1) (a + u * c) (b + u * d) (c + w * (a + u * c)) (d + w * (b + u * d)))) := by
  obtain ⟨u1, u2, u3⟩ := upN_ok h
  rw [← hu] at u1 u2 u3
  obtain ⟨hI, hE⟩ := h.up u1 u2
  obtain ⟨w1, w2, w3⟩ := dnN_ok hI
  rw [← hw] at w1 w2 w3
  obtain ⟨hJ, hE2⟩ := hI.dn w1 w2
  refine ⟨hI, hJ, ?_⟩
  have hb1 := h.2.1
  have hund : 0 < x * b - y * a := by have := h.2.2.2.2.1; omega
  have hovr : 0 < y * c - x * d := by have := h.2.2.2.2.2.1; omega
  by_cases c0 : n < b + d
  · left
    have hbn := h.2.2.1
    have hu0 : u = 0 := by
      rcases Nat.eq_zero_or_pos u with q | q
      · exact q
      · have : d ≤ u * d := Nat.le_mul_of_pos_left d q
        omega
    have hw0 : w = 0 := by
      rcases Nat.eq_zero_or_pos w with q | q
      · exact q
      · rw [hu0, Nat.zero_mul, Nat.add_zero] at w2
        have : b ≤ w * b := Nat.le_mul_of_pos_left b q
        omega
    exact ⟨c0, hu0, hw0⟩
  · right
    refine ⟨by omega, ?_⟩
    rcases hq with q | ⟨-, q2, q3⟩
    · exact absurd q c0
    have hup : 1 ≤ u ∨ (k = 0 ∧ b = 1 ∧ d = 0) := by
      rcases q3 with q3 | q3
      · exact Or.inr q3
      · left
        have e1 : 1 ≤ (x * b - y * a - 1) / (y * c - x * d) := (Nat.le_div_iff_mul_le hovr).mpr (by omega)
        rw [hu]
        unfold upN
        by_cases z : d = 0
        · rw [if_pos z]; exact e1
        · rw [if_neg z]
          have e2 : 1 ≤ (n - b) / d := (Nat.le_div_iff_mul_le (by omega)).mpr (by omega)
          split <;> omega
    by_cases c1 : b + u * d + d ≤ n
    · have e := u3 c1
      obtain ⟨p1, p2⟩ := div_pr hovr hund
      rw [← e] at p1 p2
      rw [← hE] at p2
      have hne := hI.ne c1
      have hlt : x * (b + u * d) - y * (a + u * c) < y * c - x * d := by omega
      have hund' : 0 < x * (b + u * d) - y * (a + u * c) := by have := hI.2.2.2.2.1; omega
      have hw1 : 1 ≤ w := by
        have e1 : 1 ≤ (y * c - x * d - 1) / (x * (b + u * d) - y * (a + u * c)) := (Nat.le_div_iff_mul_le hund').mpr (by omega)
        have e2 : 1 ≤ (n - d) / (b + u * d) := (Nat.le_div_iff_mul_le (by omega)).mpr (by omega)
        rw [hw]; unfold dnN
        split <;> omega
      refine ⟨Or.inr hw1, ?_⟩
      have hwb : b + u * d ≤ w * (b + u * d) := Nat.le_mul_of_pos_left _ hw1
      by_cases c2 : n < b + u * d + (d + w * (b + u * d))
      · exact Or.inl c2
      · refine Or.inr ⟨by omega, ?_, Or.inr ?_⟩
        · rw [Nat.pow_succ]
          rcases hup with r | ⟨r1, r2, r3⟩
          · have : d ≤ u * d := Nat.le_mul_of_pos_left d r
            omega
          · subst r1
            omega
        · have e' := w3 (by omega)
          obtain ⟨p3, p4⟩ := div_pr hund' hovr
          rw [← e'] at p3 p4
          rw [← hE2] at p4
          have := hJ.ne (by omega)
          omega
    · refine ⟨?_, Or.inl (by omega)⟩
      rcases hup with r | ⟨r1, r2, r3⟩
      · exact Or.inl r
      · rw [r3, Nat.mul_zero] at c1; omega
