/-! the rate of a turn -/
theorem wst_bd {sk : Nat → Bool} {len al : Nat → Nat} {a b : Nat} (hl : ∀ i, len i ≤ a) (ha : ∀ i, al i ≤ b) (hb : 1 ≤ b) : ∀ n, (wst sk len al n).2.1 ≤ a ∧ (wst sk len al n).2.2 ≤ b
  | 0 => ⟨Nat.zero_le _, hb⟩
  | n + 1 => by
    have ih := wst_bd (sk := sk) hl ha hb n
    show (if _ then _ else _ : Nat × Nat × Nat).2.1 ≤ a ∧ (if _ then _ else _ : Nat × Nat × Nat).2.2 ≤ b
    split
    · exact ih
    · exact ⟨hl n, ha n⟩
theorem crc_up {sk : Nat → Bool} {al : Nat → Nat} {i : Nat} (h : crc sk al i = true) : ∀ n, i ≤ n → crc sk al n = true
  | 0, hn => by have : i = 0 := by omega
                subst this; exact h
  | n + 1, hn => by
    by_cases c : i = n + 1
    · rw [← c]; exact h
    · show (crc sk al n || _) = true
      rw [crc_up h n (by omega), Bool.true_or]
theorem crc_s {sk : Nat → Bool} {al : Nat → Nat} {i : Nat} (h : crc sk al i = false) (h2 : sk i = true ∨ al i ≠ 0) : crc sk al (i + 1) = false := by
  show (crc sk al i || (!sk i && decide (al i = 0))) = false
  rw [h, Bool.false_or]
  rcases h2 with q | q
  · rw [q]; rfl
  · rw [decide_eq_false q, Bool.and_false]
theorem crc_1 {sk : Nat → Bool} {al : Nat → Nat} {i : Nat} (h2 : sk i = false) (h3 : al i = 0) : crc sk al (i + 1) = true := by
  show (crc sk al i || (!sk i && decide (al i = 0))) = true
  rw [h2, decide_eq_true h3, Bool.not_false, Bool.true_and, Bool.or_true]
def cdI (j : Nat) : Int32 := if j = 0 then -2 else nI (j - 1)
theorem wrX {N : Nat} (hN : 2000 ≤ N) {G : Gr} {M : Mem} (hG : GrOk G) (h : RgX M G) {t : Nat} (ht : t < 2 ^ gN G) : f_X4_worstRing N (nI t) M = some (wcd G t) := by
  have hR := rN_le hG
  unfold f_X4_worstRing
  refine lp_S (S := fun o => o = some (wcd G t)) (fun k (a : Int32 × Int32 × Int32 × Int32) => ∃ i, i + k = rN G ∧ crc noS (rA G t) i = false ∧ a = (cdI (wst noS (rL G (gG G)) (rA G t) i).1, nI (wst noS (rL G (gG G)) (rA G t) i).2.1, nI (wst noS (rL G (gG G)) (rA G t) i).2.2, nI i)) (fun k a rc hJ => ?_) N (rN G) _ ⟨0, by omega, rfl, rfl⟩ (by omega)
  obtain ⟨i, hk, hc, rfl⟩ := hJ
  dsimp only
  rw [h.1]
  cases k with
  | zero =>
    left
    have e : i = rN G := by omega
    subst e
    rw [if_pos (nI_le (Nat.le_refl _) (by omega))]
    unfold wcd
    rw [if_neg (show ¬ crG G t = true by rw [show crG G t = false from hc]; decide)]
    rfl
  | succ k =>
    have hi : i < rN G := by omega
    have i64 : inb (nI i) 64 := inb_nI (by omega) (by decide)
    have ci : (nI i).toNatClampNeg = i := nI_clamp (by omega)
    have hb := wst_bd (sk := noS) (len := rL G (gG G)) (al := rA G t) (a := 280) (b := 10) (fun j => rL_le hG (fun l hl => by have := gG_in hG hl; omega)) (fun j => rA_le hG) (by omega) i
    have hl : rL G (gG G) i ≤ 280 := rL_le hG (fun l hl => by have := gG_in hG hl; omega)
    have ha : rA G t i ≤ 10 := rA_le hG
    rw [if_neg (nI_ge hi (by omega)), alX hG h hi ht, bd_s]
    simp only [jn_e, nm_e1, nI_1, ck_t i64, ci, (h.2.2 i hi).2.1, pk_mul]
    by_cases c : rA G t i = 0
    · left
      rw [if_pos (by rw [c]; rfl)]
      unfold wcd
      rw [if_pos (show crG G t = true from crc_up (crc_1 rfl c) _ (by omega))]
    · right
      rw [if_neg (nI_ne0 (by omega) (by omega))]
      have e1 : rL G (gG G) i * (wst noS (rL G (gG G)) (rA G t) i).2.2 ≤ 280 * 10 := Nat.mul_le_mul hl hb.2
      have e2 : (wst noS (rL G (gG G)) (rA G t) i).2.1 * rA G t i ≤ 280 * 10 := Nat.mul_le_mul hb.1 ha
      have hst : wst noS (rL G (gG G)) (rA G t) (i + 1) = if noS i = true ∨ rL G (gG G) i * (wst noS (rL G (gG G)) (rA G t) i).2.2 ≤ (wst noS (rL G (gG G)) (rA G t) i).2.1 * rA G t i then wst noS (rL G (gG G)) (rA G t) i else (i + 1, rL G (gG G) i, rA G t i) := rfl
      by_cases d : rL G (gG G) i * (wst noS (rL G (gG G)) (rA G t) i).2.2 ≤ (wst noS (rL G (gG G)) (rA G t) i).2.1 * rA G t i
      · rw [if_pos (Or.inr d)] at hst
        rw [if_pos (nI_le d (by omega))]
        exact ⟨k, _, by omega, ⟨i + 1, by omega, crc_s hc (Or.inr c), by rw [hst]⟩, rfl⟩
      · rw [if_neg (fun q => by rcases q with q | q; exact absurd (show false = true from q) (by decide); exact d q)] at hst
        rw [if_neg (nI_ge (by omega) (by omega))]
        exact ⟨k, _, by omega, ⟨i + 1, by omega, crc_s hc (Or.inr c), by rw [hst]; rfl⟩, rfl⟩
/-! the reference: rates among some lines -/
noncomputable def skA (G : Gr) (am i : Nat) : Bool := decide (adn (rS G i) am ≠ 0)
noncomputable def crA (G : Gr) (am t : Nat) : Bool := crc (skA G am) (rA G t) (rN G)
noncomputable def wsA (G : Gr) (g : Nat → Nat) (am t : Nat) : Nat × Nat × Nat := wst (skA G am) (rL G g) (rA G t) (rN G)
def RtA (M A : Mem) : Prop := (∀ a, a ≠ 0 → A.1 a = M.1 a) ∧ (∀ j, j ≠ 18 → j ≠ 19 → A.1 0 j = M.1 0 j) ∧ A.2 = M.2
theorem RtA.rf {M : Mem} : RtA M M := ⟨fun _ _ => rfl, fun _ _ _ => rfl, rfl⟩
theorem RtA.set {M A : Mem} (h : RtA M A) (u v : Int32) : RtA M (setI (setI A 0 18 u) 0 19 v) := ⟨fun a ha => by rw [setI_o ha, setI_o ha]; exact h.1 a ha, fun j h1 h2 => by rw [setI_1, if_pos rfl, if_neg h2, setI_1, if_pos rfl, if_neg h1]; exact h.2.1 j h1 h2, h.2.2⟩
theorem RtA.wd {M A : Mem} {G : Gr} {g : Nat → Nat} (h : RtA M A) (hW : WdM M G g) : WdM A G g := hW.ag (fun j hj => h.2.1 j (by omega) (by omega)) (fun a h1 h2 => ⟨h.1 a (by omega), by rw [h.2.2]⟩)
theorem RtA.rg {M A : Mem} {G : Gr} (h : RtA M A) (hR : RgM M G) : RgM A G := by
  unfold RgM at *
  rw [h.2.1 17 (by omega) (by omega), h.1 8 (by omega), h.1 9 (by omega), h.1 10 (by omega)]
  exact hR
theorem ratM {N : Nat} (hN : 2000 ≤ N) {G : Gr} {M : Mem} {g : Nat → Nat} (hG : GrOk G) (hW : WdM M G g) (hR : RgM M G) {t am : Nat} (ht : t < 2 ^ gN G) : ∃ A, f_X8_rates N (nI t) (nI am) M = some (bB (!crA G am t), A) ∧ RtA M A ∧ (crA G am t = false → A.1 0 18 = nI (wsA G g am t).2.1 ∧ A.1 0 19 = nI (wsA G g am t).2.2) := by
  have hRn := rN_le hG
  unfold f_X8_rates
  rw [nm_e1, nm_e1]
  refine lp_S (S := fun o => ∃ A, o = some (bB (!crA G am t), A) ∧ RtA M A ∧ (crA G am t = false → A.1 0 18 = nI (wsA G g am t).2.1 ∧ A.1 0 19 = nI (wsA G g am t).2.2)) (fun k (a : Int32 × Mem) => ∃ i A, i + k = rN G ∧ a = (nI i, A) ∧ RtA M A ∧ crc (skA G am) (rA G t) i = false ∧ A.1 0 18 = nI (wst (skA G am) (rL G g) (rA G t) i).2.1 ∧ A.1 0 19 = nI (wst (skA G am) (rL G g) (rA G t) i).2.2) (fun k a rc hJ => ?_) N (rN G) _ ⟨0, _, by omega, rfl, RtA.rf.set _ _, rfl, by simp [setI_1]; rfl, by simp [setI_1]; rfl⟩ (by omega)
  obtain ⟨i, A, hk, rfl, hA, hc, h18, h19⟩ := hJ
  have hWA := hA.wd hW
  have hRA := hA.rg hR
  dsimp only
  rw [hRA.1]
  cases k with
  | zero =>
    left
    have e : i = rN G := by omega
    subst e
    rw [if_pos (nI_le (Nat.le_refl _) (by omega))]
    exact ⟨A, by rw [show crA G am t = false from hc]; rfl, hA, fun _ => ⟨h18, h19⟩⟩
  | succ k =>
    have hi : i < rN G := by omega
    obtain ⟨r1, -⟩ := rS_ok hi
    have i200 : inb (nI i) 200 := inb_nI (by omega) (by decide)
    have ci : (nI i).toNatClampNeg = i := nI_clamp (by omega)
    have hg14 : ∀ l, l < gN G → g l ≤ 14 := fun l hl => (hW.le hG hl).2
    have hb := wst_bd (sk := skA G am) (len := rL G g) (al := rA G t) (a := 280) (b := 10) (fun j => rL_le hG hg14) (fun j => rA_le hG) (by omega) i
    have hl : rL G g i ≤ 280 := rL_le hG hg14
    have ha : rA G t i ≤ 10 := rA_le hG
    have hlm : f_X8_length N (nI (rS G i)) A = some (nI (rL G g i)) := lenM hN hG hWA r1.2.1
    rw [if_neg (nI_ge hi (by omega))]
    simp only [jn_e, nm_e1, nI_1, ck_t i200, ci, (hRA.2 i hi).1, nI_andn]
    have hadn : adn (rS G i) am < 2 ^ gN G := adn_lt r1.2.1
    have hadn10 := lt1024 hadn hG.2.1
    have hst : wst (skA G am) (rL G g) (rA G t) (i + 1) = if skA G am i = true ∨ rL G g i * (wst (skA G am) (rL G g) (rA G t) i).2.2 ≤ (wst (skA G am) (rL G g) (rA G t) i).2.1 * rA G t i then wst (skA G am) (rL G g) (rA G t) i else (i + 1, rL G g i, rA G t i) := rfl
    by_cases s : adn (rS G i) am = 0
    rotate_left
    · right
      have sk : skA G am i = true := decide_eq_true s
      rw [if_pos (Or.inl sk)] at hst
      rw [if_neg (nI_ne0 (by omega) (by omega))]
      exact ⟨k, _, by omega, ⟨i + 1, A, by omega, rfl, hA, crc_s hc (Or.inl sk), by rw [hst]; exact h18, by rw [hst]; exact h19⟩, rfl⟩
    have sk : skA G am i = false := decide_eq_false (fun q => q s)
    rw [if_pos (by rw [s]; rfl), fewM hN hG hRA hi ht, bd_s]
    by_cases c : rA G t i = 0
    · left
      have hcr : crA G am t = true := crc_up (crc_1 sk c) _ (by omega)
      rw [if_pos (by rw [c]; rfl)]
      exact ⟨A, by rw [hcr]; rfl, hA, fun q => by rw [hcr] at q; exact absurd q (by decide)⟩
    · right
      rw [if_neg (nI_ne0 (by omega) (by omega)), hlm, bd_s, h18, h19, pk_mul, pk_mul]
      have e1 : rL G g i * (wst (skA G am) (rL G g) (rA G t) i).2.2 ≤ 280 * 10 := Nat.mul_le_mul hl hb.2
      have e2 : (wst (skA G am) (rL G g) (rA G t) i).2.1 * rA G t i ≤ 280 * 10 := Nat.mul_le_mul hb.1 ha
      by_cases d : rL G g i * (wst (skA G am) (rL G g) (rA G t) i).2.2 ≤ (wst (skA G am) (rL G g) (rA G t) i).2.1 * rA G t i
      · rw [if_pos (Or.inr d)] at hst
        rw [if_neg (nI_nlt d (by omega))]
        exact ⟨k, _, by omega, ⟨i + 1, A, by omega, rfl, hA, crc_s hc (Or.inr c), by rw [hst]; exact h18, by rw [hst]; exact h19⟩, rfl⟩
      · rw [if_neg (fun q => by rcases q with q | q; rw [sk] at q; exact absurd q (by decide); exact d q)] at hst
        rw [if_pos (nI_lt (by omega) (by omega))]
        exact ⟨k, _, by omega, ⟨i + 1, _, by omega, rfl, hA.set _ _, crc_s hc (Or.inr c), by rw [hst]; simp [setI_1], by rw [hst]; simp [setI_1]⟩, rfl⟩
