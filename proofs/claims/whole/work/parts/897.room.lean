/-! how much room a line has -/
def gk (G : Gr) (l k : Nat) : Nat → Nat := fun i => gG G i + if i = l then k else 0
theorem lnS_k {G : Gr} {l k m : Nat} : ∀ n, lnS (gk G l k) m n = lnS (gG G) m n + (if l < n then (if m.testBit l then k else 0) else 0)
  | 0 => rfl
  | n + 1 => by
    show lnS (gk G l k) m n + (if m.testBit n then gk G l k n else 0) = lnS (gG G) m n + (if m.testBit n then gG G n else 0) + _
    rw [lnS_k n]
    unfold gk
    by_cases c : l = n
    · subst c
      rw [if_neg (Nat.lt_irrefl _), if_pos (Nat.lt_succ_self _)]
      cases m.testBit l
      · simp
      · simp; omega
    · rw [if_neg (show ¬ n = l from fun q => c q.symm)]
      by_cases d : l < n
      · rw [if_pos d, if_pos (show l < n + 1 by omega)]; simp; omega
      · rw [if_neg d, if_neg (show ¬ l < n + 1 by omega)]; simp
def mlt (G : Gr) (m : Nat) : Nat := if cnt m.testBit (gN G) = 1 then 2 else 1
theorem rL_k {G : Gr} {l k i : Nat} (hl : l < gN G) : rL G (gk G l k) i = rL G (gG G) i + (if (rS G i).testBit l then k * mlt G (rS G i) else 0) := by
  unfold rL lnR
  rw [lnS_k, if_pos hl, Nat.add_mul]
  congr 1
  unfold mlt
  cases (rS G i).testBit l
  · simp
  · rfl
theorem gk_bd {G : Gr} (hG : GrOk G) {l k : Nat} (hk : k ≤ 9) : ∀ i, i < gN G → 1 ≤ gk G l k i ∧ gk G l k i ≤ 14 := fun i hi => by
  have := gG_in hG hi
  unfold gk
  split <;> omega
theorem red_uq {x1 x2 u d : Nat} (h : x1 * d = u * x2) (hx : 0 < x2) (hd : 0 < d) (hg : Nat.gcd u d = 1) : red (x1, x2) = (u, d) := by
  obtain ⟨g1, g2, g3, g4⟩ := red_e (a := x1) hx
  have hc := red_g (a := x1) hx
  generalize (red (x1, x2)) = r at *
  obtain ⟨a, b⟩ := r
  dsimp only at *
  have e : a * d = u * b := by
    apply Nat.eq_of_mul_eq_mul_right g1
    have e1 : a * d * Nat.gcd x1 x2 = a * Nat.gcd x1 x2 * d := by ac_rfl
    have e2 : u * b * Nat.gcd x1 x2 = u * (b * Nat.gcd x1 x2) := by ac_rfl
    rw [e1, e2, ← g2, ← g3]; exact h
  have h1 : d ∣ b := Nat.Coprime.dvd_of_dvd_mul_left (k := d) (m := u) (n := b) (by rw [Nat.coprime_comm]; exact hg) (by rw [← e]; exact Nat.dvd_mul_left d a)
  have h2 : b ∣ d := Nat.Coprime.dvd_of_dvd_mul_left (k := b) (m := a) (n := d) (by rw [Nat.coprime_comm]; exact hc) (by rw [e]; exact Nat.dvd_mul_left b u)
  have h3 : b = d := Nat.dvd_antisymm h2 h1
  subst h3
  have : a = u := Nat.eq_of_mul_eq_mul_right hd e
  rw [this]
/-- a line may be so much wider, the ratio staying -/
def Wid (G : Gr) (l k : Nat) : Prop := ∃ t, t < 2 ^ gN G ∧ crG G t = false ∧ ∀ i, i < rN G → rL G (gk G l k) i * (rat G).2 ≤ (rat G).1 * rA G t i
theorem rat_g {G : Gr} (hG : GrOk G) (hn : gN G ≠ 0) : Nat.gcd (rat G).1 (rat G).2 = 1 := by
  obtain ⟨-, s, s1, s2, s3⟩ := rtG_ok hG
  have hp : 0 < (rtG G (2 ^ gN G)).2 := by rw [s3]; exact (wst_ok (sk := noS) (len := rL G (gG G)) (rN G) (fun i hi => crc_fi s2 hi)).1
  have hr : rat G = red (rtG G (2 ^ gN G)) := by unfold rat; rw [if_neg hn]
  rw [hr]
  exact red_g hp
theorem wid_iff {G : Gr} (hG : GrOk G) {l k : Nat} (hl : l < gN G) : raB G (gk G l k) (2 ^ gN G - 1) = rat G ↔ Wid G l k := by
  have hn0 : gN G ≠ 0 := by omega
  have h2 : 1 < 2 ^ gN G := Nat.one_lt_two_pow hn0
  obtain ⟨-, -, hpos⟩ := rat_bd hG
  rcases raB_pos hG (g := gk G l k) (am := 2 ^ gN G - 1) with ⟨c, -⟩ | ⟨-, s, s1, s2, s3, e, s5⟩
  · omega
  · rw [e]
    have hcs : crG G s = false := by unfold crB at s2; simp at s2; rw [← crA_all]; exact s2.2
    have cb : ∀ t, t < 2 ^ gN G → crG G t = false → crB G (2 ^ gN G - 1) t = false := fun t ht hc => by
      unfold crB; rw [adn_all ht, crA_all, hc]; rfl
    rw [wsA_all] at s3 s5 ⊢
    obtain ⟨-, w2, w3⟩ := wst_ok (sk := noS) (len := rL G (gk G l k)) (rN G) (fun i hi => crc_fi hcs hi)
    constructor
    · intro h
      refine ⟨s, s1, hcs, fun i hi => ?_⟩
      refine fr_le (w2 i hi rfl) ?_ s3
      generalize (wst noS (rL G (gk G l k)) (rA G s) (rN G)).2 = x at *
      obtain ⟨x1, x2⟩ := x
      have := (red_le (a := (rat G).1) (b := (rat G).2) (c := x1) s3).2
      rw [h] at this
      exact this.mp (Nat.le_refl _)
    · rintro ⟨t, t1, t2, t3⟩
      have h5 := s5 t t1 (cb t t1 t2)
      rw [wsA_all] at h5
      have hle : (wst noS (rL G (gk G l k)) (rA G s) (rN G)).2.1 * (rat G).2 ≤ (rat G).1 * (wst noS (rL G (gk G l k)) (rA G s) (rN G)).2.2 := by
        obtain ⟨v1, v2, v3⟩ := wst_ok (sk := noS) (len := rL G (gk G l k)) (rN G) (fun i hi => crc_fi t2 hi)
        refine fr_le h5 ?_ v1
        rcases v3 with q | ⟨j, j1, -, q, -⟩
        · rw [q]; show 0 * _ ≤ _; rw [Nat.zero_mul]; exact Nat.zero_le _
        · rw [q]; exact t3 j j1
      have hge : (rat G).1 * (wst noS (rL G (gk G l k)) (rA G s) (rN G)).2.2 ≤ (wst noS (rL G (gk G l k)) (rA G s) (rN G)).2.1 * (rat G).2 := by
        obtain ⟨h1, s', s1', s2', s3'⟩ := rtG_ok hG
        have hp : 0 < (rtG G (2 ^ gN G)).2 := by rw [s3']; exact (wst_ok (sk := noS) (len := rL G (gG G)) (rN G) (fun i hi => crc_fi s2' hi)).1
        have h4 := h1 s s1 hcs
        have hr : rat G = red (rtG G (2 ^ gN G)) := by unfold rat; rw [if_neg hn0]
        obtain ⟨u1, u2, u3⟩ := wst_ok (sk := noS) (len := rL G (gG G)) (rN G) (fun i hi => crc_fi hcs hi)
        have hmono : (wsG G s).2.1 * (wst noS (rL G (gk G l k)) (rA G s) (rN G)).2.2 ≤ (wst noS (rL G (gk G l k)) (rA G s) (rN G)).2.1 * (wsG G s).2.2 := by
          rcases u3 with q | ⟨j, j1, -, q, -⟩
          · have q : wsG G s = _ := q
            rw [q]; show 0 * _ ≤ _; rw [Nat.zero_mul]; exact Nat.zero_le _
          · have q : wsG G s = _ := q
            rw [q]
            have h6 := w2 j j1 rfl
            refine Nat.le_trans (Nat.mul_le_mul_right _ ?_) h6
            rw [rL_k hl]; exact Nat.le_add_right _ _
        have h7 : (rtG G (2 ^ gN G)).1 * (wst noS (rL G (gk G l k)) (rA G s) (rN G)).2.2 ≤ (wst noS (rL G (gk G l k)) (rA G s) (rN G)).2.1 * (rtG G (2 ^ gN G)).2 := fr_le h4 hmono u1
        rw [hr]
        generalize rtG G (2 ^ gN G) = x at *
        obtain ⟨x1, x2⟩ := x
        exact (red_le hp).2.mpr h7
      have hq := Nat.le_antisymm hle hge
      generalize (wst noS (rL G (gk G l k)) (rA G s) (rN G)).2 = x at *
      obtain ⟨x1, x2⟩ := x
      have := red_uq hq s3 hpos (rat_g hG hn0)
      rw [this]
theorem wid_0 {G : Gr} (hG : GrOk G) {l : Nat} (hl : l < gN G) : Wid G l 0 := by
  rw [← wid_iff hG hl]
  have : gk G l 0 = gG G := by funext i; unfold gk; split <;> rfl
  rw [this, raB_all]
/-! the class: the least of what rings leave -/
theorem one_bit {G : Gr} {m l : Nat} (hm : m < 2 ^ gN G) (hn : gN G ≤ 10) (hl : m.testBit l = true) : cnt m.testBit (gN G) = 1 ↔ m = 2 ^ l := by
  have hlt : l < gN G := by
    rcases Nat.lt_or_ge l (gN G) with q | q
    · exact q
    · rw [tb_hi hm q] at hl; exact absurd hl (by decide)
  constructor
  · intro h
    have h0 : m ≠ 0 := fun e => by rw [e, Nat.zero_testBit] at hl; exact absurd hl (by decide)
    obtain ⟨-, b2, b3, b4⟩ := lb_d m (lt1024 hm hn) h0
    have e := b4 (by rw [pc_cntn hm hn]; exact h)
    rw [e, Nat.testBit_two_pow] at hl
    simp at hl
    rw [← hl]; exact e
  · intro h
    rw [h]; exact cnt_2 hlt
/-- k may be added by this turn -/
def RmT (G : Gr) (l t k : Nat) : Prop := ∀ i, i < rN G → (rS G i).testBit l = true → (k * mlt G (rS G i)) * (rat G).2 + rL G (gG G) i * (rat G).2 ≤ (rat G).1 * rA G t i
theorem rmbX {N : Nat} (hN : 2000 ≤ N) {G : Gr} {M : Mem} (hG : GrOk G) (h : RgX M G) (hr : RtX M G) {t l : Nat} (ht : t < 2 ^ gN G) (hl : l < gN G) (hok : ∀ i, i < rN G → rL G (gG G) i * (rat G).2 ≤ (rat G).1 * rA G t i) : ∃ w, w ≤ 9 ∧ f_X4_roomBy N (nI t) (nI (2 ^ l)) M = some (nI w) ∧ ∀ k, k ≤ 9 → (k ≤ w ↔ RmT G l t k) := by
  have hRn := rN_le hG
  have hn := hG.2.1
  obtain ⟨q1, q2, q3⟩ := rat_bd hG
  have h2l : 2 ^ l < 2 ^ 10 := Nat.pow_lt_pow_right (by omega) (by omega)
  unfold f_X4_roomBy
  refine lp_S (S := fun o => ∃ w, w ≤ 9 ∧ o = some (nI w) ∧ ∀ k, k ≤ 9 → (k ≤ w ↔ RmT G l t k)) (fun k (a : Int32 × Int32) => ∃ i w, i + k = rN G ∧ a = (nI w, nI i) ∧ w ≤ 9 ∧ ∀ k, k ≤ 9 → (k ≤ w ↔ ∀ j, j < i → (rS G j).testBit l = true → (k * mlt G (rS G j)) * (rat G).2 + rL G (gG G) j * (rat G).2 ≤ (rat G).1 * rA G t j)) (fun k a rc hJ => ?_) N (rN G) _ ⟨0, 9, by omega, rfl, by omega, fun k hk => ⟨fun _ j hj => absurd hj (Nat.not_lt_zero _), fun _ => hk⟩⟩ (by omega)
  obtain ⟨i, w, hk, rfl, hw, hI⟩ := hJ
  dsimp only
  rw [h.1]
  cases k with
  | zero =>
    left
    have e : i = rN G := by omega
    subst e
    rw [if_pos (nI_le (Nat.le_refl _) (by omega))]
    exact ⟨w, hw, rfl, hI⟩
  | succ k =>
    right
    have hi : i < rN G := by omega
    have hm := (rS_ok hi).1.2.1
    have hm10 := lt1024 hm hn
    have i64 : inb (nI i) 64 := inb_nI (by omega) (by decide)
    have ci : (nI i).toNatClampNeg = i := nI_clamp (by omega)
    have hll : rL G (gG G) i ≤ 280 := rL_le hG (fun l hl => by have := gG_in hG hl; omega)
    have ha : rA G t i ≤ 10 := rA_le hG
    have m2 : (rat G).1 * rA G t i ≤ 280 * 10 := Nat.mul_le_mul q1 ha
    have hoki := hok i hi
    rw [if_neg (nI_ge hi (by omega))]
    simp only [jn_e, nm_e1, nI_1, ck_t i64, ci, (h.2.2 i hi).1, (h.2.2 i hi).2.1, hr.1, hr.2.1]
    rw [alX hG h hi ht, bd_s, bd_s, pk_mul, pk_mul, pk_sub hoki, show (2 : Int32) = nI 2 from rfl, pk_mul]
    by_cases c : (rS G i).testBit l = false
    · rw [if_pos ((and2 hm10 (by omega)).mpr c)]
      refine ⟨k, _, by omega, ⟨i + 1, w, by omega, rfl, hw, fun k' hk' => ?_⟩, rfl⟩
      rw [hI k' hk']
      refine ⟨fun q j hj hb => ?_, fun q j hj hb => q j (by omega) hb⟩
      by_cases e : j = i
      · rw [e, c] at hb; exact absurd hb (by decide)
      · exact q j (by omega) hb
    · have c' : (rS G i).testBit l = true := by
        cases q : (rS G i).testBit l
        · exact absurd q c
        · rfl
      rw [if_neg (fun q => c ((and2 hm10 (by omega)).mp q))]
      have hone := one_bit hm hn c'
      obtain ⟨v, hv⟩ : ∃ v, v = mlt G (rS G i) * (rat G).2 := ⟨_, rfl⟩
      have hm12 : mlt G (rS G i) = 1 ∨ mlt G (rS G i) = 2 := by unfold mlt; split <;> simp
      have hv1 : 1 ≤ v ∧ v ≤ 20 := by
        rcases hm12 with e | e <;> rw [e] at hv <;> omega
      obtain ⟨d, hd⟩ : ∃ d, d = (rat G).1 * rA G t i - rL G (gG G) i * (rat G).2 := ⟨_, rfl⟩
      have hmin : ∃ w', w' ≤ 9 ∧ (∀ k', k' ≤ w' ↔ k' ≤ w ∧ k' ≤ d / v) ∧ f_J9_min_7cf53 N (nI w) (nI d / nI v) M = some (nI w') := by
        have hdv : d / v ≤ d := Nat.div_le_self _ _
        rw [pk_div (by omega) (by omega) (by omega), minI (by omega) (by omega)]
        refine ⟨_, ?_, ?_, rfl⟩
        · split <;> omega
        · intro k'; split <;> omega
      obtain ⟨w', w1, w2, w3⟩ := hmin
      have e1 : ¬ nI v = 0 := nI_ne0 (by omega) (by omega)
      have e2 : (1 : Int32) ≤ nI v := nI_le (a := 1) hv1.1 (by omega)
      have res : (∃ m c, m < k + 1 ∧ (∃ i w, i + m = rN G ∧ c = (nI w, nI i) ∧ w ≤ 9 ∧ ∀ k, k ≤ 9 → (k ≤ w ↔ ∀ j, j < i → (rS G j).testBit l = true → (k * mlt G (rS G j)) * (rat G).2 + rL G (gG G) j * (rat G).2 ≤ (rat G).1 * rA G t j)) ∧ rc (nI w', nI (i + 1)) = rc c) := by
        refine ⟨k, _, by omega, ⟨i + 1, w', by omega, rfl, w1, fun k' hk' => ?_⟩, rfl⟩
        rw [w2, hI k' hk', Nat.le_div_iff_mul_le (by omega)]
        have ek : k' * v = (k' * mlt G (rS G i)) * (rat G).2 := by rw [hv]; ac_rfl
        rw [ek]
        constructor
        · rintro ⟨u1, u2⟩ j hj hb
          by_cases e : j = i
          · rw [e]; omega
          · exact u1 j (by omega) hb
        · intro u
          refine ⟨fun j hj hb => u j (by omega) hb, ?_⟩
          have := u i (by omega) c'
          omega
      rw [← hd]
      by_cases o : rS G i = 2 ^ l
      · have hmm : mlt G (rS G i) = 2 := by unfold mlt; rw [if_pos (hone.mpr o)]
        rw [if_pos (by rw [o]), ← hmm, ← hv, if_pos e2, ck_t e1, w3, bd_s]
        exact res
      · have hmm : mlt G (rS G i) = 1 := by unfold mlt; rw [if_neg (fun q => o (hone.mp q))]
        have hv' : v = (rat G).2 := by rw [hv, hmm, Nat.one_mul]
        rw [if_neg (nI_ne (by omega) (by omega) o)]
        rw [hv'] at e1 e2 w3
        rw [if_pos e2, ck_t e1, w3, bd_s]
        exact res
theorem wid_t {G : Gr} (hG : GrOk G) {l k : Nat} (hl : l < gN G) : Wid G l k ↔ ∃ t, t < 2 ^ gN G ∧ okT G t (rat G).1 (rat G).2 = true ∧ RmT G l t k := by
  have key : ∀ t i : Nat, rL G (gk G l k) i * (rat G).2 = (if (rS G i).testBit l then (k * mlt G (rS G i)) * (rat G).2 else 0) + rL G (gG G) i * (rat G).2 := fun t i => by
    rw [rL_k hl, Nat.add_mul, Nat.add_comm]
    congr 1
    cases (rS G i).testBit l
    · simp
    · rfl
  constructor
  · rintro ⟨t, t1, t2, t3⟩
    refine ⟨t, t1, ?_, fun i hi hb => ?_⟩
    · unfold okT
      rw [t2, decide_eq_true ((al_iff t2 _ _).mpr (fun i hi => ?_))]; rfl
      have := t3 i hi
      rw [key t] at this
      omega
    · have := t3 i hi
      rw [key t, if_pos hb] at this
      exact this
  · rintro ⟨t, t1, t2, t3⟩
    unfold okT at t2
    simp at t2
    refine ⟨t, t1, t2.1, fun i hi => ?_⟩
    rw [key t]
    cases c : (rS G i).testBit l
    · have := (al_iff t2.1 _ _).mp t2.2 i hi
      simp
      exact this
    · rw [if_pos rfl]; exact t3 i hi c
theorem rmX {N : Nat} (hN : 2000 ≤ N) {G : Gr} {M : Mem} (hG : GrOk G) (h : RgX M G) (hr : RtX M G) {l : Nat} (hl : l < gN G) : ∃ w, w ≤ 9 ∧ f_X4_roomOf N (nI l) M = some (nI w) ∧ Wid G l w ∧ ∀ k, k ≤ 9 → w < k → ¬ Wid G l k := by
  have hn := hG.2.1
  have h2n := two_le hn
  obtain ⟨q1, q2, q3⟩ := rat_bd hG
  suffices q : ∃ w, w ≤ 9 ∧ f_X4_roomOf N (nI l) M = some (nI w) ∧ ∀ k, k ≤ 9 → (k ≤ w ↔ k = 0 ∨ Wid G l k) by
    obtain ⟨w, w1, w2, w3⟩ := q
    refine ⟨w, w1, w2, ?_, fun k hk hw hW => ?_⟩
    · rcases (w3 w w1).mp (Nat.le_refl _) with e | e
      · rw [e]; exact wid_0 hG hl
      · exact e
    · have := (w3 k hk).mpr (Or.inr hW); omega
  unfold f_X4_roomOf
  refine lp_S (S := fun o => ∃ w, w ≤ 9 ∧ o = some (nI w) ∧ ∀ k, k ≤ 9 → (k ≤ w ↔ k = 0 ∨ Wid G l k)) (fun k (a : Int32 × Int32) => ∃ t w, t + k = 2 ^ gN G ∧ a = (nI w, nI t) ∧ w ≤ 9 ∧ ∀ k, k ≤ 9 → (k ≤ w ↔ k = 0 ∨ ∃ s, s < t ∧ okT G s (rat G).1 (rat G).2 = true ∧ RmT G l s k)) (fun k a rc hJ => ?_) N (2 ^ gN G) _ ⟨0, 0, by omega, rfl, by omega, fun k hk => ⟨fun q => Or.inl (by omega), fun q => by rcases q with q | ⟨s, s1, -⟩; omega; exact absurd s1 (Nat.not_lt_zero _)⟩⟩ (by omega)
  obtain ⟨t, w, hk, rfl, hw, hI⟩ := hJ
  dsimp only
  rw [h.2.1]
  cases k with
  | zero =>
    left
    have e : t = 2 ^ gN G := by omega
    subst e
    rw [if_pos (nI_le (Nat.le_refl _) (by omega))]
    exact ⟨w, hw, rfl, fun k hk => by rw [hI k hk, wid_t hG hl]⟩
  | succ k =>
    right
    have ht : t < 2 ^ gN G := by omega
    rw [if_neg (nI_ge ht (by omega)), hr.1, hr.2.1, alwX hG h hr ht (by omega) (by omega), bd_s]
    simp only [jn_e, nm_e1, nI_1]
    rw [ite_bB]
    cases c : okT G t (rat G).1 (rat G).2
    · rw [if_neg (by decide)]
      refine ⟨k, _, by omega, ⟨t + 1, w, by omega, rfl, hw, fun k' hk' => ?_⟩, rfl⟩
      rw [hI k' hk']
      constructor
      · rintro (q | ⟨s, s1, s2⟩)
        · exact Or.inl q
        · exact Or.inr ⟨s, by omega, s2⟩
      · rintro (q | ⟨s, s1, s2, s3⟩)
        · exact Or.inl q
        · refine Or.inr ⟨s, ?_, s2, s3⟩
          by_cases e : s = t
          · rw [e, c] at s2; exact absurd s2 (by decide)
          · omega
    · have c2 := c
      unfold okT at c2
      simp at c2
      obtain ⟨v, v1, v2, v3⟩ := rmbX (N := N) hN hG h hr ht hl ((al_iff c2.1 _ _).mp c2.2)
      rw [if_pos rfl, sh1 (by omega), v2, bd_s, maxI (by omega) (by omega), bd_s]
      refine ⟨k, _, by omega, ⟨t + 1, _, by omega, rfl, by split <;> omega, fun k' hk' => ?_⟩, rfl⟩
      have h1 := hI k' hk'
      have h2 := v3 k' hk'
      have h3 : k' ≤ (if w < v then v else w) ↔ k' ≤ w ∨ k' ≤ v := by split <;> omega
      rw [h3, h1, h2]
      constructor
      · rintro ((q | ⟨s, s1, s2⟩) | q)
        · exact Or.inl q
        · exact Or.inr ⟨s, by omega, s2⟩
        · exact Or.inr ⟨t, by omega, c, q⟩
      · rintro (q | ⟨s, s1, s2, s3⟩)
        · exact Or.inl (Or.inl q)
        · by_cases e : s = t
          · rw [e] at s3; exact Or.inr s3
          · exact Or.inl (Or.inr ⟨s, by omega, s2, s3⟩)
theorem s_20 {N : Nat} (hN : 2000 ≤ N) : St_20 N Rel := by
  intro Mx Mm a0 h
  apply rr_st
  obtain ⟨G, z, ls, hc⟩ := id h
  have hG := hc.1
  have hn := hG.2.1
  have h2n := two_le hn
  have hp : 0 < 2 ^ gN G := Nat.two_pow_pos _
  unfold f_X7_room f_X8_room
  rw [lnX, lnM hc.2.2.1.2.1 hn, bd_s, bd_s, ite_bI, ite_bI, hc.2.1.2.1]
  refine rr_ite Iff.rfl (fun hv => ?_) (fun _ => rr_ret ⟨rfl, h⟩)
  obtain ⟨l, hl, rfl⟩ := nI_of_lt (by omega) hv
  obtain ⟨X, x1, x2, x3, x4, x5, x6⟩ := rtdX (N := N) hN hc
  obtain ⟨A, m1, m2, m3, m4, m5, m6⟩ := layM (N := N) hN hc
  obtain ⟨B, b1, b2, b3, b4⟩ := rasM (N := N) (am := 2 ^ gN G - 1) hN hG m6 m3 (by omega)
  rw [raB_all] at b3 b4
  obtain ⟨w, w1, w2, w3, w4⟩ := rmX (N := N) hN hG x3 x4 hl
  obtain ⟨q1, q2, q3⟩ := rat_bd hG
  rw [x1, m1, bd_s, bd_s, w2, bd_s, nm_e1, m4.2.1, all_e hn, b1, bd_s, nm_e1, nm_e1, nm_e1, nm_e1, b3, b4]
  have hRB := b2.rg m3
  obtain ⟨zb, lb, hMB⟩ := (b2.wd m6).1
  have hsB := m2.tr b2.scr
  have h8 : Mm.1 0 8 = -1 := hc.2.2.2.1
  refine lp_S (S := fun o => RR PR (some (nI w, X)) o) (fun k (C : Mem) => (∀ a, a ≠ 0 → C.1 a = B.1 a) ∧ (∀ j, ¬ (18 ≤ j ∧ j ≤ 21) → j ≠ 8 → j ≠ 9 → C.1 0 j = B.1 0 j) ∧ C.2 = B.2 ∧ C.1 0 8 = nI l ∧ C.1 0 9 = nI k ∧ w < k ∧ k ≤ 10) (fun k C rc hJ => ?_) N 10 _ ⟨fun a ha => by rw [setI_o ha, setI_o ha], fun j _ h1 h2 => by rw [setI_1, if_pos rfl, if_neg h2, setI_1, if_pos rfl, if_neg h1], rfl, by simp [setI_1], by simp [setI_1]; rfl, by omega, by omega⟩ (by omega)
  obtain ⟨c1, c2, c3, c4, c5, c6, c7⟩ := hJ
  rw [nm_e1, c5]
  cases k with
  | zero => omega
  | succ k =>
    rw [nI_pred]
    obtain ⟨D, hD⟩ : ∃ D, D = setI C 0 9 (nI k) := ⟨_, rfl⟩
    rw [← hD]
    have e8 : D.1 0 8 = nI l := by rw [hD]; simp [setI_1, c4]
    have e9 : D.1 0 9 = nI k := by rw [hD]; simp [setI_1]
    have ea : ∀ a, a ≠ 0 → D.1 a = B.1 a := fun a ha => by rw [hD, setI_o ha]; exact c1 a ha
    have ej : ∀ j, ¬ (18 ≤ j ∧ j ≤ 21) → j ≠ 8 → j ≠ 9 → D.1 0 j = B.1 0 j := fun j h0 h1 h2 => by rw [hD, setI_1, if_pos rfl, if_neg h2]; exact c2 j h0 h1 h2
    have e2 : D.2 = B.2 := by rw [hD]; exact c3
    have hMD : NetM D G zb lb := hMB.ag (fun j hj => ej j (by omega) (by omega) (by omega)) (fun a h1 h2 => ⟨ea a (by omega), by rw [e2]⟩)
    have hWD : WdM D G (gk G l k) := ⟨⟨zb, lb, hMD⟩, Or.inr ⟨l, k, hl, by omega, e8, e9, rfl⟩⟩
    have hRD : RgM D G := by
      unfold RgM at *
      rw [ej 17 (by omega) (by omega) (by omega), ea 8 (by omega), ea 9 (by omega), ea 10 (by omega)]
      exact hRB
    obtain ⟨E, f1, f2, f3, f4⟩ := rasM (N := N) (am := 2 ^ gN G - 1) hN hG hWD hRD (by omega)
    obtain ⟨p1, p2, p3⟩ := raB_bd hG (g := gk G l k) (am := 2 ^ gN G - 1) (fun i hi => (gk_bd hG (by omega) i hi).2)
    have E9 : E.1 0 9 = nI k := by rw [f2.2.1 9 (by omega)]; exact e9
    rw [f1, bd_s, f3, f4, nm_e1]
    have hgo : k ≠ w → ∃ m c, m < k + 1 ∧ ((∀ a, a ≠ 0 → c.1 a = B.1 a) ∧ (∀ j, ¬ (18 ≤ j ∧ j ≤ 21) → j ≠ 8 → j ≠ 9 → c.1 0 j = B.1 0 j) ∧ c.2 = B.2 ∧ c.1 0 8 = nI l ∧ c.1 0 9 = nI m ∧ w < m ∧ m ≤ 10) ∧ rc E = rc c := fun hne => ⟨k, E, by omega, ⟨fun a ha => (f2.1 a ha).trans (ea a ha), fun j h0 h1 h2 => (f2.2.1 j h0).trans (ej j h0 h1 h2), f2.2.2.trans e2, by rw [f2.2.1 8 (by omega)]; exact e8, E9, by omega, by omega⟩, rfl⟩
    by_cases c : k = w
    · left
      have hW : raB G (gk G l k) (2 ^ gN G - 1) = rat G := (wid_iff hG hl).mpr (by rw [c]; exact w3)
      rw [hW, if_pos rfl, if_pos rfl]
      refine rr_ret ⟨?_, Rel.scr hc x2 (hsB.tr ⟨fun j hj => ?_, fun a ha => ⟨?_, ?_⟩, fun j _ => ?_, fun j _ => ?_, fun j _ => ?_⟩) x5⟩
      · show nI w = (setI E 0 8 (-1)).1 0 9
        rw [setI_1, if_pos rfl, if_neg (by decide), E9, c]
      · show (setI E 0 8 (-1)).1 0 j = B.1 0 j
        rw [setI_1, if_pos rfl]
        by_cases e : j = 8
        · rw [if_pos e, e, hsB.1 8 (by omega), h8]
        · rw [if_neg e, f2.2.1 j (by omega)]; exact ej j (by omega) e (by omega)
      · show (setI E 0 8 (-1)).1 a = B.1 a
        rw [setI_o (by omega), f2.1 a (by omega)]; exact ea a (by omega)
      · show E.2 a = B.2 a
        rw [f2.2.2, e2]
      · show (setI E 0 8 (-1)).1 23 j = B.1 23 j
        rw [setI_o (by decide), f2.1 23 (by omega), ea 23 (by omega)]
      · show (setI E 0 8 (-1)).1 24 j = B.1 24 j
        rw [setI_o (by decide), f2.1 24 (by omega), ea 24 (by omega)]
      · show E.2 25 j = B.2 25 j
        rw [f2.2.2, e2]
    · right
      have hW : ¬ raB G (gk G l k) (2 ^ gN G - 1) = rat G := fun q => w4 k (by omega) (by omega) ((wid_iff hG hl).mp q)
      by_cases d : (raB G (gk G l k) (2 ^ gN G - 1)).1 = (rat G).1
      · rw [if_pos (by rw [d]), if_neg (nI_ne (by omega) (by omega) (fun q => hW (Prod.ext d q)))]
        exact hgo c
      · rw [if_neg (nI_ne (by omega) (by omega) d)]
        exact hgo c
