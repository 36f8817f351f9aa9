/-! the reference: places far enough, bits, parts -/
theorem apaM {N : Nat} (hN : 2000 ≤ N) {M : Mem} {p x r : Nat} (h12 : M.1 0 12 = nI p) (hp : p ≤ 40) (hx : x < 40) (hr : r < 1000) : ∃ w, w < 2 ^ p ∧ f_X8_apart N (nI x) (nI r) M = some (lN w) ∧ ∀ y, w.testBit y = (decide (y < p) && apt x y p r) := by
  unfold f_X8_apart
  have fin := @lp_S (Int64 × Int32) Int64
  obtain ⟨g, hg⟩ : ∃ g : Nat → Bool, g = fun y => apt x y p r := ⟨_, rfl⟩
  refine ⟨mk g p, mk_lt p, ?_, fun y => by rw [mk_tb, hg]⟩
  refine lp_cnt p (fun i (a : Int64 × Int32) => a = (lN (mk g i), nI i)) (fun i a rc hi hI => Or.inr ?_) (fun a rc hI => ?_) N 0 _ (by omega) rfl (by omega)
  · subst hI
    refine ⟨(lN (mk g (i + 1)), nI (i + 1)), rfl, ?_⟩
    dsimp only
    rw [h12, if_neg (nI_ge hi (by omega))]
    have h31 : ∀ K : Int32 → Option Int64, jn K (fun (k31 : Int32 → Option (Int64)) => if nI i ≤ nI x then (k31 (nI x - nI i)) else (k31 (nI i - nI x))) = K (nI (dst x i)) := fun K => by
      rw [jn_e]
      unfold dst
      by_cases c : i ≤ x
      · rw [if_pos (nI_le c (by omega)), pk_sub c, show x - i + (i - x) = x - i by omega]
      · rw [if_neg (nI_ge (by omega) (by omega)), pk_sub (by omega), show x - i + (i - x) = i - x by omega]
    rw [h31]
    have hd : dst x i < 40 := by unfold dst; omega
    simp only [jn_e, nm_e1, nI_1]
    have hmk : mk g (i + 1) = mk g i + (if g i then 2 ^ i else 0) := rfl
    have hlt := mk_lt (p := g) i
    have h2i : 2 ^ i < 2 ^ 40 := Nat.pow_lt_pow_right (by omega) (by omega)
    have hone : (1 : Int64) <<< ((nI i).toInt64 &&& 63) = lN (2 ^ i) := by
      have := wb_shl 1 (k := i) (by omega)
      rw [Nat.one_mul] at this
      exact this
    have hz : lN (mk g i) ||| 0 = lN (mk g i) := by
      have := wb_or (a := mk g i) (b := 0) (by omega) (by omega)
      rw [Nat.or_zero] at this
      exact this
    have hin : lN (mk g i) ||| lN (2 ^ i) = lN (mk g i + 2 ^ i) := by rw [wb_or (by omega) (by omega), or_add hlt]
    rw [hone, hz, hin, hmk]
    have e2 : (nI p - nI (dst x i)).toInt = (p : Int) - (dst x i : Nat) := pk_sub_toInt (by omega) (by omega)
    have hgi : g i = (decide (r ≤ dst x i) && decide (r + dst x i ≤ p)) := by rw [hg]; rfl
    rw [hgi]
    by_cases c1 : r ≤ dst x i
    · rw [if_neg (nI_nlt c1 (by omega)), decide_eq_true c1, Bool.true_and]
      by_cases c2 : r + dst x i ≤ p
      · rw [if_neg (by rw [i_lt, e2, nI_toInt (by omega)]; omega), decide_eq_true c2]; rfl
      · rw [if_pos (by rw [i_lt, e2, nI_toInt (by omega)]; omega), decide_eq_false c2]; rfl
    · rw [if_pos (nI_lt (by omega) (by omega)), decide_eq_false c1, Bool.false_and]; rfl
  · subst hI
    dsimp only
    rw [h12, if_pos (nI_le (Nat.le_refl _) (by omega))]
theorem low_m1 {m c : Nat} (h1 : m.testBit c = true) (h2 : ∀ j, j < c → m.testBit j = false) : (m - 1).testBit c = false := by
  have hp : 0 < 2 ^ c := Nat.two_pow_pos c
  have e0 : m % 2 ^ c = 0 := Nat.eq_of_testBit_eq (fun j => by
    rw [Nat.testBit_mod_two_pow, Nat.zero_testBit]
    by_cases q : j < c
    · rw [h2 j q, Bool.and_false]
    · rw [decide_eq_false q, Bool.false_and])
  have e1 := Nat.div_add_mod m (2 ^ c)
  rw [e0, Nat.add_zero] at e1
  rw [Nat.testBit_eq_decide_div_mod_eq] at h1 ⊢
  simp at h1
  generalize hh : m / 2 ^ c = h at *
  obtain ⟨k, hk⟩ : ∃ k, h = k + 1 := ⟨h - 1, by omega⟩
  have e2 : m - 1 = 2 ^ c * k + (2 ^ c - 1) := by
    rw [hk, Nat.mul_add, Nat.mul_one] at e1; omega
  have e3 : (m - 1) / 2 ^ c = k := by
    rw [e2, Nat.mul_add_div hp, Nat.div_eq_of_lt (by omega), Nat.add_zero]
  rw [e3]
  exact decide_eq_false (by omega)
theorem btML {N : Nat} (hN : 2000 ≤ N) {M : Mem} {m : Nat} (hm : m < 2 ^ 40) : ∃ v, f_X8_bits N (lN m) M = some v := by
  obtain ⟨K, hK⟩ : ∃ K, K = 40 := ⟨_, rfl⟩
  have hb := cnt_bd (p := m.testBit) K
  unfold f_X8_bits
  refine lp_S (S := fun o => ∃ v, o = some v) (fun n (a : Int32 × Int64) => ∃ x c, x < 2 ^ 40 ∧ n = cnt x.testBit K ∧ a = (c, lN x)) (fun n a rc hJ => ?_) N (cnt m.testBit K) _ ⟨m, 0, hm, rfl, rfl⟩ (by omega)
  obtain ⟨x, c, hx, hn, rfl⟩ := hJ
  dsimp only
  by_cases c0 : x = 0
  · left
    rw [if_pos ((l0 (by omega)).mpr c0)]
    exact ⟨_, rfl⟩
  · right
    rw [if_neg (fun q => c0 ((l0 (by omega)).mp q)), nm_e1, nm_e1]
    have e1 : lN x - 1 = lN (x - 1) := lN_sub (b := 1) (by omega)
    have hle : x &&& (x - 1) ≤ x := Nat.and_le_left
    rw [e1, wb_and (by omega) (by omega)]
    obtain ⟨k, k1, k2, k3, -⟩ := lowb hx c0
    have hz : (x &&& (x - 1)).testBit k = false := by rw [Nat.testBit_and, low_m1 k2 k3, Bool.and_false]
    have h1 : cnt (x &&& (x - 1)).testBit K ≤ cnt (fun j => x.testBit j && !decide (j = k)) K := cnt_le _ (fun j _ hj => by
      have hj' := hj
      rw [Nat.testBit_and] at hj
      simp at hj ⊢
      refine ⟨hj.1, fun e => ?_⟩
      rw [e, hz] at hj'; exact absurd hj' (by decide))
    have h2 := cnt_upd (p := fun j => x.testBit j && !decide (j = k)) (q := x.testBit) (m := k) (by simp) k2 (fun j hj => by simp [hj]) K
    rw [if_pos (by omega)] at h2
    exact ⟨cnt (x &&& (x - 1)).testBit K, _, by omega, ⟨x &&& (x - 1), _, by omega, rfl, rfl⟩, rfl⟩
/-- sets of points that hang together -/
def Clo (G : Gr) (w n : Nat) : Prop := ∀ l, l < n → w.testBit (gA G l) = w.testBit (gB G l)
theorem cnt_lt2 {a b n : Nat} (hs : ∀ i, a.testBit i = true → b.testBit i = true) (hb : b < 2 ^ n) (hne : a ≠ b) : cnt a.testBit n < cnt b.testBit n := by
  obtain ⟨l, l1, l2⟩ := sub_ne hs hne
  have hl : l < n := by
    rcases Nat.lt_or_ge l n with q | q
    · exact q
    · rw [tb_hi hb q] at l1; exact absurd l1 (by decide)
  have h1 : cnt a.testBit n ≤ cnt (fun j => b.testBit j && !decide (j = l)) n := cnt_le _ (fun j _ hj => by
    simp
    refine ⟨hs j hj, fun e => ?_⟩
    rw [e, l2] at hj; exact absurd hj (by decide))
  have h2 := cnt_upd (p := fun j => b.testBit j && !decide (j = l)) (q := b.testBit) (m := l) (by simp) l1 (fun j hj => by simp [hj]) n
  rw [if_pos hl] at h2
  omega
theorem parM {N : Nat} (hN : 2000 ≤ N) {G : Gr} {z : Int32} {ls : Nat → Int64} {M : Mem} (hG : GrOk G) (h : NetM M G z ls) {k : Nat} (hk : k < gP G) : ∃ w, w < 2 ^ gP G ∧ f_X8_partOf N (nI k) M = some (nI w) ∧ w.testBit k = true ∧ Clo G w (gN G) := by
  have hn := hG.2.1
  have hP := hG.1
  have h2P : 2 ^ gP G ≤ 2 ^ 6 := Nat.pow_le_pow_right (by omega) hP
  unfold f_X8_partOf
  rw [nm_e1, sh1 (show k < 31 by omega)]
  refine lp_S (S := fun o => ∃ w, w < 2 ^ gP G ∧ o = some (nI w) ∧ w.testBit k = true ∧ Clo G w (gN G)) (fun n (a : Int32 × Int32) => ∃ j w, j + n = gP G ∧ a = (nI w, nI j) ∧ w < 2 ^ gP G ∧ w.testBit k = true ∧ (Clo G w (gN G) ∨ j + 1 ≤ cnt w.testBit (gP G))) (fun n a rc hJ => ?_) N (gP G) _ ⟨0, 2 ^ k, by omega, rfl, Nat.pow_lt_pow_right (by omega) hk, by rw [Nat.testBit_two_pow]; simp, Or.inr (by rw [cnt_2 hk]; omega)⟩ (by omega)
  obtain ⟨j, w, hj, rfl, hw, hwk, hst⟩ := hJ
  dsimp only
  rw [h.1]
  cases n with
  | zero =>
    left
    have e : j = gP G := by omega
    subst e
    rw [if_pos (nI_le (a := gP G) (b := gP G) (Nat.le_refl _) (by omega))]
    refine ⟨w, hw, rfl, hwk, ?_⟩
    rcases hst with q | q
    · exact q
    · have := cnt_bd (p := w.testBit) (gP G); omega
  | succ n =>
    right
    rw [if_neg (nI_ge (show j < gP G by omega) (by omega))]
    refine lp_S (S := fun o => ∃ m c, m < n + 1 ∧ (∃ j w, j + m = gP G ∧ c = (nI w, nI j) ∧ w < 2 ^ gP G ∧ w.testBit k = true ∧ (Clo G w (gN G) ∨ j + 1 ≤ cnt w.testBit (gP G))) ∧ o = rc c) (fun r (a : Int32 × Int32) => ∃ l u, l + r = gN G ∧ a = (nI u, nI l) ∧ u < 2 ^ gP G ∧ (∀ i, w.testBit i = true → u.testBit i = true) ∧ (u = w → Clo G w l) ∧ (Clo G w (gN G) → u = w)) (fun r a rc' hJ => ?_) N (gN G) _ ⟨0, w, by omega, rfl, hw, fun i hi => hi, fun _ l hl => absurd hl (Nat.not_lt_zero _), fun _ => rfl⟩ (by omega)
    obtain ⟨l, u, hl, rfl, hu, hsub, hcl, hsame⟩ := hJ
    dsimp only
    rw [h.2.1]
    cases r with
    | zero =>
      left
      have e : l = gN G := by omega
      subst e
      rw [if_pos (nI_le (a := gN G) (b := gN G) (Nat.le_refl _) (by omega)), nm_e1, nI_1]
      refine ⟨n, _, by omega, ⟨j + 1, u, by omega, rfl, hu, hsub k hwk, ?_⟩, rfl⟩
      by_cases e : u = w
      · rw [e]; exact Or.inl (hcl e)
      · right
        have := cnt_lt2 hsub hu (fun q => e q.symm)
        rcases hst with q | q
        · exact absurd (hsame q) e
        · omega
    | succ r =>
      right
      have hln : l < gN G := by omega
      have l10 : inb (nI l) 10 := inb_nI (by omega) (by decide)
      have cl : (nI l).toNatClampNeg = l := nI_clamp (by omega)
      obtain ⟨-, -, k3, k4⟩ := h.2.2.2.1 l hln
      obtain ⟨-, -, -, o4, o5⟩ := hG.2.2.1 l hln
      rw [if_neg (nI_ge hln (by omega))]
      simp only [jn_e, nm_e1, nI_1, ck_t l10, cl, k3, k4]
      rw [hasM (show gA G l < 31 by omega) (by omega), bd_s, hasM (show gB G l < 31 by omega) (by omega), bd_s, sh1 (show gA G l < 31 by omega), sh1 (show gB G l < 31 by omega), nI_or, nI_or, show (0 : Int32) = nI 0 from rfl, nI_or, Nat.or_zero]
      have pow : ∀ e, e < gP G → 2 ^ e < 2 ^ gP G := fun e he => Nat.pow_lt_pow_right (by omega) he
      have nxt : ∀ u', u' < 2 ^ gP G → (∀ i, u.testBit i = true → u'.testBit i = true) → (u' = u → u.testBit (gA G l) = u.testBit (gB G l)) → (u.testBit (gA G l) = u.testBit (gB G l) → u' = u) → ∃ m c, m < r + 1 ∧ (∃ l u, l + m = gN G ∧ c = (nI u, nI l) ∧ u < 2 ^ gP G ∧ (∀ i, w.testBit i = true → u.testBit i = true) ∧ (u = w → Clo G w l) ∧ (Clo G w (gN G) → u = w)) ∧ rc' (nI u', nI (l + 1)) = rc' c := by
        intro u' h1 h2 h3 h4
        refine ⟨r, _, by omega, ⟨l + 1, u', by omega, rfl, h1, fun i hi => h2 i (hsub i hi), fun e => ?_, fun hC => ?_⟩, rfl⟩
        · have huw : u = w := Nat.eq_of_testBit_eq (fun i => by
            cases c : w.testBit i
            · cases d : u.testBit i
              · rfl
              · have := h2 i d
                rw [e, c] at this; exact absurd this (by decide)
            · exact hsub i c)
          have hc := hcl huw
          have h5 := h3 (by rw [e, huw])
          intro l' hl'
          by_cases z : l' = l
          · rw [z, ← huw]; exact h5
          · exact hc l' (by omega)
        · have huw := hsame hC
          rw [h4 (by rw [huw]; exact hC l hln), huw]
      have or_same : ∀ e, u.testBit e = true → u ||| 2 ^ e = u := fun e he => Nat.eq_of_testBit_eq (fun i => by
        rw [tb_or2]
        by_cases z : i = e
        · rw [if_pos z, z, he]
        · rw [if_neg z])
      cases ca : u.testBit (gA G l)
      · rw [if_pos (show bB false = nI 0 from rfl)]
        cases cb : u.testBit (gB G l)
        · rw [if_pos (show bB false = nI 0 from rfl)]
          exact nxt u hu (fun i hi => hi) (fun _ => by rw [ca, cb]) (fun _ => rfl)
        · rw [if_neg (show ¬ bB true = nI 0 by decide)]
          refine nxt _ (Nat.or_lt_two_pow hu (pow _ (by omega))) (fun i hi => by rw [tb_or2]; split; rfl; exact hi) (fun e => ?_) (fun e => ?_)
          · exfalso
            have : (u ||| 2 ^ gA G l).testBit (gA G l) = true := by rw [tb_or2, if_pos rfl]
            rw [e, ca] at this; exact absurd this (by decide)
          · rw [ca, cb] at e; exact absurd e (by decide)
      · rw [if_neg (show ¬ bB true = nI 0 by decide)]
        refine nxt _ (Nat.or_lt_two_pow hu (pow _ o5)) (fun i hi => by rw [tb_or2]; split; rfl; exact hi) (fun e => ?_) (fun e => ?_)
        · have : (u ||| 2 ^ gB G l).testBit (gB G l) = true := by rw [tb_or2, if_pos rfl]
          rw [e] at this
          rw [ca, this]
        · exact or_same _ (by rw [← e]; exact ca)
