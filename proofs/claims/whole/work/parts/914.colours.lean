/-! colours -/
def ColR (G : Gr) (p q : Nat) (L : Nat → Nat → Bool) (M : Mem) (o : Option (Int32 × Mem)) : Prop := ∃ b M', o = some (bB b, M') ∧ (∀ a, a ≠ 7 → M'.1 a = M.1 a) ∧ (∀ c, c ≠ 6 → M'.2 c = M.2 c) ∧ (b = true → ∃ c, Fst G p q L c ∧ ∀ i, i < gP G → M'.1 7 i = nI (c i)) ∧ (b = false → ∀ c, ¬ Col G p q L c)
theorem colM {N : Nat} (hN : 2000 ≤ N) {G : Gr} {z : Int32} {ls : Nat → Int64} {M : Mem} (hG : GrOk G) (h : NetM M G z ls) (h8 : M.1 0 8 = -1) {p q li : Nat} (hp1 : 1 ≤ p) (hp : p ≤ 40) (hq : q ≤ 6) (hli : li ≤ 1) : ColR G p q (plc ls li) (setI (setI M 0 12 (nI p)) 0 13 (nI q)) (f_X8_colours N (nI p) (nI q) (nI li) M) := by
  have hn := hG.2.1
  have hP := hG.1
  have h2p : 2 ^ p ≤ 2 ^ 40 := Nat.pow_le_pow_right (by omega) hp
  have hpp : 0 < 2 ^ p := Nat.two_pow_pos p
  unfold f_X8_colours
  rw [nm_e1, nm_e1]
  have hM2 : NetM (setI (setI M 0 12 (nI p)) 0 13 (nI q)) G z ls := h.ag (fun j hj => by simp [setI_1]; rw [if_neg (by omega), if_neg (by omega)]) (fun a q1 q2 => ⟨by rw [setI_o (by omega), setI_o (by omega)], rfl⟩)
  have m8 : (setI (setI M 0 12 (nI p)) 0 13 (nI q)).1 0 8 = -1 := by simp [setI_1]; exact h8
  have m12 : (setI (setI M 0 12 (nI p)) 0 13 (nI q)).1 0 12 = nI p := by simp [setI_1]
  have m13 : (setI (setI M 0 12 (nI p)) 0 13 (nI q)).1 0 13 = nI q := by simp [setI_1]
  generalize setI (setI M 0 12 (nI p)) 0 13 (nI q) = M2 at hM2 m8 m12 m13 ⊢
  have ev : ((1 : Int64) <<< ((nI p).toInt64 &&& 63)) - 1 = lN (2 ^ p - 1) := by
    have : (1 : Int64) <<< ((nI p).toInt64 &&& 63) = lN (1 * 2 ^ p) := wb_shl 1 (by omega)
    rw [this, Nat.one_mul]; exact lN_sub (b := 1) hpp
  refine lp_S (S := ColR G p q (plc ls li) M2) (fun n (c : Int32 × Mem) => ∃ i A m0, i + n = gP G ∧ c = (nI i, A) ∧ A.1 = M2.1 ∧ (∀ c, c ≠ 6 → A.2 c = M2.2 c) ∧ ∀ j, j < i → A.2 6 j = lN (m0 j) ∧ m0 j < 2 ^ p ∧ IniP G ls li p m0 j) (fun n c rc hJ => ?_) N (gP G) _ ⟨0, M2, fun _ => 0, by omega, rfl, rfl, fun _ _ => rfl, fun j hj => absurd hj (Nat.not_lt_zero _)⟩ (by omega)
  obtain ⟨i, A, m0, hi, rfl, hA1, hA2, hm0⟩ := hJ
  have hMA : NetM A G z ls := hM2.ag (fun j _ => by rw [hA1]) (fun a q1 q2 => ⟨by rw [hA1], hA2 a (by omega)⟩)
  dsimp only
  rw [hMA.1]
  cases n with
  | succ n =>
    right
    have hiP : i < gP G := by omega
    obtain ⟨w, w1, w2, w3, w4⟩ := parM (N := N) hN hG hMA hiP
    have hw64 : w < 64 := Nat.lt_of_lt_of_le w1 (Nat.pow_le_pow_right (by omega) hP : 2 ^ gP G ≤ 2 ^ 6)
    have h2i : 2 ^ i ≤ 2 ^ 6 := Nat.pow_le_pow_right (by omega) (by omega)
    have hpi : 0 < 2 ^ i := Nat.two_pow_pos i
    rw [if_neg (nI_ge hiP (by omega)), w2, bd_s]
    have es : ((1 : Int32) <<< (nI i &&& 31)) - 1 = nI (2 ^ i - 1) := by rw [sh1 (by omega)]; exact pk_sub (b := 1) hpi
    have i42 : inb (nI i) 42 := inb_nI (by omega) (by decide)
    have i6 : inb (nI i) 6 := inb_nI (by omega) (by decide)
    have ci : (nI i).toNatClampNeg = i := nI_clamp (by omega)
    have e5 : A.2 5 i = lN (lsN ls i) := (hMA.2.2.2.2 i hiP).trans lsN_e
    rw [es, ev]
    simp only [jn_e, nm_e1, nI_1, ck_t i42, ck_t i6, ci, e5, nI_and, Nat.and_two_pow_sub_one_eq_mod, wb_mask lsN_lt (show p < 64 by omega)]
    have nx : ∀ u, u < 2 ^ p → (∀ m : Nat → Nat, m i = u → IniP G ls li p m i) → ∃ m' c, m' < n + 1 ∧ (∃ i A m0, i + m' = gP G ∧ c = (nI i, A) ∧ A.1 = M2.1 ∧ (∀ c, c ≠ 6 → A.2 c = M2.2 c) ∧ ∀ j, j < i → A.2 6 j = lN (m0 j) ∧ m0 j < 2 ^ p ∧ IniP G ls li p m0 j) ∧ rc (nI (i + 1), setJ A 6 i (lN u)) = rc c := fun u hu hI => by
      refine ⟨n, _, by omega, ⟨i + 1, setJ A 6 i (lN u), upv m0 i u, by omega, rfl, hA1, fun c hc => by rw [setJ_o hc]; exact hA2 c hc, fun j hj => ?_⟩, rfl⟩
      rw [setJ_2, if_pos rfl]
      by_cases e : j = i
      · subst e
        rw [if_pos rfl, upv_s]
        exact ⟨rfl, hu, hI _ upv_s⟩
      · rw [if_neg e, upv_o e]
        obtain ⟨k1, k2, k3⟩ := hm0 j (by omega)
        refine ⟨k1, k2, ?_⟩
        unfold IniP at k3 ⊢
        rw [upv_o e]; exact k3
    have hmod : w % 2 ^ i < 2 ^ i := Nat.mod_lt _ hpi
    by_cases c0 : w % 2 ^ i = 0
    · rw [if_pos (show nI (w % 2 ^ i) = 0 by rw [c0]; rfl)]
      by_cases c1 : li = 1
      · rw [if_pos (show nI li = 1 by rw [c1]; rfl)]
        exact nx _ (Nat.mod_lt _ hpp) (fun m hm => Or.inl ⟨c1, hm⟩)
      · rw [if_neg (show ¬ nI li = 1 from fun q => c1 ((nI_eq (b := 1) (by omega) (by decide)).mp q)), if_neg (show ¬ (1 : Int32) = 0 by decide)]
        refine nx 1 (Nat.one_lt_two_pow (by omega)) (fun m hm => Or.inr ⟨c1, Or.inr ⟨hm, w, w4, w3, fun j hj => ?_⟩⟩)
        have := Nat.testBit_mod_two_pow w i j
        rw [c0, Nat.zero_testBit, decide_eq_true hj, Bool.true_and] at this
        exact this.symm
    · rw [if_neg (nI_ne0 (by omega) (by omega))]
      by_cases c1 : li = 1
      · rw [if_pos (show nI li = 1 by rw [c1]; rfl)]
        exact nx _ (Nat.mod_lt _ hpp) (fun m hm => Or.inl ⟨c1, hm⟩)
      · rw [if_neg (show ¬ nI li = 1 from fun q => c1 ((nI_eq (b := 1) (by omega) (by decide)).mp q))]
        first
          | rw [if_pos trivial]
          | rw [if_pos rfl]
        exact nx _ (by omega) (fun m hm => Or.inr ⟨c1, Or.inl hm⟩)
  | zero =>
    left
    have ei : i = gP G := by omega
    subst ei
    rw [if_pos (nI_le (a := gP G) (b := gP G) (Nat.le_refl _) (by omega))]
    have hIni : ∀ j, j < gP G → IniP G ls li p m0 j := fun j hj => (hm0 j hj).2.2
    have hL0 : Lay A G p 0 m0 := fun j hj => by
      rw [Nat.mul_zero, Nat.zero_add]; exact ⟨(hm0 j hj).1, (hm0 j hj).2.1⟩
    refine lp_S (S := ColR G p q (plc ls li) M2) (fun n (c : Int32 × Mem) => ∃ k B mm v, k + n = gP G ∧ c = (nI k, B) ∧ (∀ a, a ≠ 7 → B.1 a = M2.1 a) ∧ (∀ c, c ≠ 6 → B.2 c = M2.2 c) ∧ Lay B G p 0 mm ∧ CoS G p q m0 mm v k ∧ ∀ j, j < k → B.1 7 j = nI (v j)) (fun n c rc hJ => ?_) N (gP G) _ ⟨0, A, m0, fun _ => 0, by omega, rfl, fun a _ => by rw [hA1], hA2, hL0, ⟨fun i hi => absurd hi (Nat.not_lt_zero _), fun i _ _ y => ⟨fun q => ⟨q, fun l _ _ hh => absurd hh (Nat.not_lt_zero _)⟩, fun q => q.1⟩, fun l _ hh => absurd hh (Nat.not_lt_zero _), fun c _ i hi => absurd hi (Nat.not_lt_zero _)⟩, fun j hj => absurd hj (Nat.not_lt_zero _)⟩ (by omega)
    obtain ⟨k, B, mm, v, hk, rfl, hB1, hB2, hLB, hCo, hvB⟩ := hJ
    have hMB : NetM B G z ls := hM2.ag (fun j _ => by rw [hB1 0 (by omega)]) (fun a q1 q2 => ⟨hB1 a (by omega), hB2 a (by omega)⟩)
    have b0 : ∀ j, B.1 0 j = M2.1 0 j := fun j => by rw [hB1 0 (by omega)]
    dsimp only
    rw [hMB.1]
    cases n with
    | zero =>
      left
      have ek : k = gP G := by omega
      subst ek
      rw [if_pos (nI_le (a := gP G) (b := gP G) (Nat.le_refl _) (by omega))]
      refine ⟨true, B, rfl, hB1, hB2, fun _ => ?_, fun q => absurd q (by decide)⟩
      have hcv : Col G p q (fun i y => (m0 i).testBit y) v := ⟨fun i hi => (hCo.1 i hi).2, fun l hl => by
        have o := (hG.2.2.1 l hl).2.2.2
        exact hCo.2.2.1 l hl (by omega) o.2⟩
      obtain ⟨c, hc⟩ := Fst.ex ⟨v, ini_col hIni hcv⟩
      have hc0 := ini_fst hG hIni hc
      have hF0 : Fst G p q (fun i y => (m0 i).testBit y) c := ⟨hc0, fun d hd => hc.2 d (ini_col hIni hd)⟩
      exact ⟨c, hc, fun i hi => by rw [hCo.2.2.2 c hF0 i hi]; exact hvB i hi⟩
    | succ n =>
      have hkP : k < gP G := by omega
      obtain ⟨w, w1, w2, w3, w4⟩ := parM (N := N) hN hG hMB hkP
      have hw64 : w < 64 := Nat.lt_of_lt_of_le w1 (Nat.pow_le_pow_right (by omega) hP : 2 ^ gP G ≤ 2 ^ 6)
      have hpk : 0 < 2 ^ (k + 1) := Nat.two_pow_pos (k + 1)
      have es : ((2 : Int32) <<< (nI k &&& 31)) - 1 = nI (2 ^ (k + 1) - 1) := by rw [sh2 (by omega)]; exact pk_sub (b := 1) hpk
      rw [if_neg (nI_ge hkP (by omega)), w2, bd_s, nm_e1, es, nI_andn]
      obtain ⟨rest, hrest⟩ : ∃ rest, rest = adn w (2 ^ (k + 1) - 1) := ⟨_, rfl⟩
      rw [← hrest]
      have hrlt : rest < 2 ^ gP G := by rw [hrest]; exact adn_lt w1
      have hr : ∀ i, rest.testBit i = (w.testBit i && decide (k < i)) := fun i => by
        rw [hrest, adn_tb, Nat.testBit_two_pow_sub_one]
        congr 1
        by_cases e : k < i
        · rw [decide_eq_true e, decide_eq_false (by omega)]; rfl
        · rw [decide_eq_false e, decide_eq_true (by omega)]; rfl
      have hcr : cnt rest.testBit (gP G) ≤ 5 := by
        have h1 := cnt_upd2 (p := rest.testBit) (q := fun i => rest.testBit i || decide (i = k)) (m := k) hkP (by rw [hr, decide_eq_false (by omega), Bool.and_false]) (fun l hl => by rw [decide_eq_false hl, Bool.or_false])
        have h2 := cnt_bd (p := fun i => rest.testBit i || decide (i = k)) (gP G)
        rw [decide_eq_true rfl, Bool.or_true] at h1
        have : (true).toNat = 1 := rfl
        omega
      have k42 : inb (nI k) 42 := inb_nI (by omega) (by decide)
      have k6 : inb (nI k) 6 := inb_nI (by omega) (by decide)
      have cK : (nI k).toNatClampNeg = k := nI_clamp (by omega)
      refine lp_S (S := fun o => ColR G p q (plc ls li) M2 o ∨ ∃ m c, m < n + 1 ∧ (∃ k B mm v, k + m = gP G ∧ c = (nI k, B) ∧ (∀ a, a ≠ 7 → B.1 a = M2.1 a) ∧ (∀ c, c ≠ 6 → B.2 c = M2.2 c) ∧ Lay B G p 0 mm ∧ CoS G p q m0 mm v k ∧ ∀ j, j < k → B.1 7 j = nI (v j)) ∧ o = rc c) (fun r (c : Int32 × Mem) => ∃ x C, x + r = p ∧ c = (nI x, C) ∧ MyA 0 B C ∧ ∀ c, Col G p q (fun i y => (m0 i).testBit y) c → (∀ i, i < k → c i = v i) → x ≤ c k) (fun r c rc' hJ => ?_) N p _ ⟨0, B, by omega, rfl, MyA.rf, fun c _ _ => Nat.zero_le _⟩ (by omega)
      obtain ⟨x, C, hx, rfl, hC, hlow⟩ := hJ
      have hMC := hC.net hMB
      have hLC := hC.lay hG hLB (Nat.le_refl 0)
      dsimp only
      cases r with
      | zero =>
        left
        left
        have e : x = p := by omega
        subst e
        simp only [jn_e]
        rw [if_pos (nI_le (a := x) (b := x) (Nat.le_refl _) (by omega))]
        first
          | rw [if_pos rfl]
          | rw [if_pos trivial]
        refine ⟨false, C, rfl, fun a ha => by rw [hC.1]; exact hB1 a ha, fun c hc => by rw [hC.2.1 c hc]; exact hB2 c hc, fun q => absurd q (by decide), fun _ c hc => ?_⟩
        obtain ⟨d, hd⟩ := Fst.ex ⟨c, hc⟩
        have hd0 := ini_fst hG hIni hd
        have hF0 : Fst G x q (fun i y => (m0 i).testBit y) d := ⟨hd0, fun d' hd' => hd.2 d' (ini_col hIni hd')⟩
        have h1 := hlow d hd0 (hCo.2.2.2 d hF0)
        have h2 := (hd0.1 k hkP).1
        omega
      | succ r =>
        have hxp : x < p := by omega
        have hk0 : C.2 6 k = lN (mm k) := by
          have := (hLC k hkP).1
          rw [Nat.mul_zero, Nat.zero_add] at this
          exact this
        have hmk : mm k < 2 ^ 64 := by have := (hLC k hkP).2; omega
        have nx : ∀ D, MyA 0 C D → (∀ c, Col G p q (fun i y => (m0 i).testBit y) c → (∀ i, i < k → c i = v i) → c k ≠ x) → ∃ m c, m < r + 1 ∧ (∃ x C, x + m = p ∧ c = (nI x, C) ∧ MyA 0 B C ∧ ∀ c, Col G p q (fun i y => (m0 i).testBit y) c → (∀ i, i < k → c i = v i) → x ≤ c k) ∧ rc' (nI (x + 1), D) = rc' c := fun D hD hne => ⟨r, _, by omega, ⟨x + 1, D, by omega, rfl, hC.tr hD, fun c hc hv => by
          have := hlow c hc hv
          have := hne c hc hv
          omega⟩, rfl⟩
        have foundK : ∀ D d, MyA 0 B D → (mm k).testBit x = true → (∀ nw, NwS G p q k x mm nw (gN G) → EW G p q rest.testBit nw d) → ∀ o, o = (if nI x = nI p then some (0, D) else bd (f_X8_narrows N 0 (nI k) (nI x) D) (fun w8 => lp (fun (k198 : (Int32 × Mem) → Option (Int32 × Mem)) (a198 : Int32 × Mem) => if a198.2.1 0 0 ≤ a198.1 then rc (nI (k + 1), setI a198.2 7 k (nI x)) else ck (inb (6 + a198.1) 42) (ck (inb a198.1 42) (k198 (a198.1 + 1, setJ a198.2 6 a198.1.toNatClampNeg (a198.2.2 6 (6 + a198.1).toNatClampNeg))))) N (0, w8.2))) → ColR G p q (plc ls li) M2 o ∨ ∃ m c, m < n + 1 ∧ (∃ k B mm v, k + m = gP G ∧ c = (nI k, B) ∧ (∀ a, a ≠ 7 → B.1 a = M2.1 a) ∧ (∀ c, c ≠ 6 → B.2 c = M2.2 c) ∧ Lay B G p 0 mm ∧ CoS G p q m0 mm v k ∧ ∀ j, j < k → B.1 7 j = nI (v j)) ∧ o = rc c := by
          intro D d hD hmx hEW o ho
          have hMD := hD.net hMB
          have hLD := hD.lay hG hLB (Nat.le_refl 0)
          obtain ⟨b1, E, nw, n1, n2, n3, n4, n5⟩ := narM (N := N) hN hG hMD (by rw [hD.1, b0]; exact m8) hp hq (by rw [hD.1, b0]; exact m12) (by rw [hD.1, b0]; exact m13) (a := 0) (k := k) (x := x) (by omega) hkP hxp hLD
          have n1' : f_X8_narrows N 0 (nI k) (nI x) D = some (bB b1, E) := n1
          rw [if_neg (nI_ne (by omega) (by omega) (by omega)), n1', bd_s] at ho
          rw [ho]
          right
          have hME := n2.net hMD
          have hEB : E.1 = B.1 := n2.1.trans hD.1
          have hE2 : ∀ c, c ≠ 6 → E.2 c = B.2 c := fun c hc => (n2.2.1 c hc).trans (hD.2.1 c hc)
          have hfk : ∀ c, Fst G p q (fun i y => (m0 i).testBit y) c → c k = x := fun c hc => by
            have hv := hCo.2.2.2 c hc
            have h1 := hlow c hc.1 hv
            obtain ⟨c', u1, u2, u3⟩ := hCo.out hG hkP hxp hmx n4 w4 w3 hr (hEW nw n4) hc.1 hv
            rcases hc.2 c' u1 with z1 | ⟨j, j1, j2, j3⟩
            · rw [z1 k hkP, u3]
            · rcases Nat.lt_trichotomy j k with s1 | s1 | s1
              · rw [hv j s1, u2 j s1] at j3; omega
              · rw [s1, u3] at j3; omega
              · rw [j2 k s1, u3]
          have hnew := hCo.st hG hkP hxp hmx n4 hfk
          refine lp_S (S := fun o => ∃ m c, m < n + 1 ∧ (∃ k B mm v, k + m = gP G ∧ c = (nI k, B) ∧ (∀ a, a ≠ 7 → B.1 a = M2.1 a) ∧ (∀ c, c ≠ 6 → B.2 c = M2.2 c) ∧ Lay B G p 0 mm ∧ CoS G p q m0 mm v k ∧ ∀ j, j < k → B.1 7 j = nI (v j)) ∧ o = rc c) (fun s (c : Int32 × Mem) => ∃ i H, i + s = gP G ∧ c = (nI i, H) ∧ H.1 = B.1 ∧ (∀ c, c ≠ 6 → H.2 c = B.2 c) ∧ (∀ j, j < i → H.2 6 j = lN (nw j)) ∧ ∀ j, j < gP G → H.2 6 (6 + j) = lN (nw j)) (fun s c rk hJ => ?_) N (gP G) _ ⟨0, E, by omega, rfl, hEB, hE2, fun j hj => absurd hj (Nat.not_lt_zero _), fun j hj => (n3 j hj).1⟩ (by omega)
          obtain ⟨i, H, hi, rfl, hH1, hH2, hH3, hH4⟩ := hJ
          dsimp only
          rw [show H.1 0 0 = nI (gP G) by rw [hH1]; exact hMB.1]
          cases s with
          | zero =>
            left
            have e : i = gP G := by omega
            subst e
            rw [if_pos (nI_le (a := gP G) (b := gP G) (Nat.le_refl _) (by omega))]
            refine ⟨n, _, by omega, ⟨k + 1, setI H 7 k (nI x), nw, upv v k x, by omega, rfl, fun a ha => by rw [setI_o ha, hH1]; exact hB1 a ha, fun c hc => by rw [← hB2 c hc]; exact hH2 c hc, fun j hj => ?_, hnew, fun j hj => ?_⟩, rfl⟩
            · rw [Nat.mul_zero, Nat.zero_add]; exact ⟨hH3 j hj, (n3 j hj).2⟩
            · rw [setI_1, if_pos rfl]
              by_cases e : j = k
              · rw [if_pos e, e, upv_s]
              · rw [if_neg e, upv_o e, hH1]; exact hvB j (by omega)
          | succ s =>
            right
            have hiP : i < gP G := by omega
            have e6 : (6 : Int32) + nI i = nI (6 + i) := by rw [show (6 : Int32) = nI 6 from rfl, nI_add]
            rw [if_neg (nI_ge hiP (by omega)), e6, ck_t (inb_nI (by omega) (by decide)), ck_t (inb_nI (by omega) (by decide)), nI_clamp (by omega), nI_clamp (by omega), hH4 i hiP, nI_1]
            refine ⟨s, _, by omega, ⟨i + 1, setJ H 6 i (lN (nw i)), by omega, rfl, hH1, fun c hc => by rw [setJ_o hc]; exact hH2 c hc, fun j hj => ?_, fun j hj => ?_⟩, rfl⟩
            · rw [setJ_2, if_pos rfl]
              by_cases e : j = i
              · rw [if_pos e, e]
              · rw [if_neg e]; exact hH3 j (by omega)
            · rw [setJ_2, if_pos rfl, if_neg (by omega)]; exact hH4 j hj
        simp only [jn_e, nm_e1, nI_1, ck_t k42, ck_t k6, cK, hk0]
        rw [if_neg (nI_ge hxp (by omega))]
        by_cases cb : (mm k).testBit x = true
        · rw [if_pos ((lbitT hmk (by omega)).mpr cb)]
          obtain ⟨b1, D, nw, n1, n2, n3, n4, n5⟩ := narM (N := N) hN hG hMC (by rw [hC.1, b0]; exact m8) hp hq (by rw [hC.1, b0]; exact m12) (by rw [hC.1, b0]; exact m13) (a := 0) (k := k) (x := x) (by omega) hkP hxp hLC
          have n1' : f_X8_narrows N 0 (nI k) (nI x) C = some (bB b1, D) := n1
          rw [n1', bd_s]
          dsimp only
          cases hb1 : b1
          · right
            rw [if_pos (show bB false = 0 from rfl)]
            refine nx D n2 (fun c hc hv e => ?_)
            have := (hCo.inn (nw := nw) hG hkP hr hc hv).2 (by rw [e]; exact n4)
            rw [n5.mpr this.1] at hb1; exact absurd hb1 (by decide)
          · rw [if_neg (show ¬ bB true = 0 by decide)]
            have hMD := n2.net hMC
            obtain ⟨b2, E, e1, e2, e3⟩ := endM (N := N) (z := z) (ls := ls) hN hG hp hq 10 1 rest D nw (by omega) (by omega) hrlt hMD (by rw [n2.1, hC.1, b0]; exact m8) (by rw [n2.1, hC.1, b0]; exact m12) (by rw [n2.1, hC.1, b0]; exact m13) n3 (hCo.inv hG hkP cb n4 w4 hr)
            have e1' : f_X8_ends N 10 1 (nI rest) D = some (bB b2, E) := e1
            rw [e1', bd_s]
            dsimp only
            have hCE : MyA 0 C E := n2.tr (e2.up (by omega))
            cases hb2 : b2
            · right
              rw [if_pos (show bB false = 0 from rfl)]
              refine nx E hCE (fun c hc hv e => ?_)
              have := (hCo.inn (nw := nw) hG hkP hr hc hv).2 (by rw [e]; exact n4)
              rw [e3.mpr ⟨c, this.2⟩] at hb2; exact absurd hb2 (by decide)
            · left
              rw [if_neg (show ¬ bB true = 0 by decide)]
              obtain ⟨d, hd⟩ := e3.mp hb2
              refine foundK E d (hC.tr hCE) cb (fun nw' hnw' => ?_) _ rfl
              have same : ∀ i, i < gP G → nw' i = nw i := fun i hi => by
                by_cases e : i = k
                · rw [(hnw' i hi).2.1 e, (n4 i hi).2.1 e]
                · exact Nat.eq_of_testBit_eq (fun y => by rw [(hnw' i hi).2.2 e y, (n4 i hi).2.2 e y])
              exact ⟨fun i hi hpi => by rw [same i hi]; exact hd.1 i hi hpi, hd.2⟩
        · right
          rw [if_neg (fun q => cb ((lbitT hmk (by omega)).mp q))]
          refine nx C MyA.rf (fun c hc hv e => ?_)
          have := (hCo.inn (nw := mm) hG hkP hr hc hv).1
          rw [e] at this
          exact cb this
