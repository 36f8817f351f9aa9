theorem cM_all {i j k l : Nat} (hi : i < 15) (hj : j < i) (hk : k < j) (hl : l < k) : cM (2 ^ i + 2 ^ j + 2 ^ k + 2 ^ l) rgL ≤ 54 := by
  apply Nat.le_of_ble_eq_true
  by_cases c : i < 11
  · exact cM_a i c j hj k hk l hl
  · have : i = 11 ∨ i = 12 ∨ i = 13 ∨ i = 14 := by omega
    rcases this with rfl | rfl | rfl | rfl
    · exact cM_11 j hj k hk l hl
    · exact cM_12 j hj k hk l hl
    · exact cM_13 j hj k hk l hl
    · exact cM_14 j hj k hk l hl
theorem foldl_f (p : Nat → Bool) : ∀ (l : List Nat) (n : Nat), l.foldl (fun n E => cond (p E) (n + 1) n) n = n + (l.filter p).length
  | [], n => rfl
  | a :: l, n => by
    show l.foldl _ (cond (p a) (n + 1) n) = n + (List.filter p (a :: l)).length
    rw [foldl_f p l, List.filter_cons]
    cases c : p a
    · rw [if_neg (by decide)]; rfl
    · rw [if_pos rfl, List.length_cons]; show n + 1 + _ = _; omega
theorem bt_tb (E j : Nat) : bt E j = (E.testBit j).toNat := (tb_dm E j).symm
theorem dgF_e (E : Nat) : ∀ y, y < 6 → dgF E y = cnt (fun j => E.testBit j && incE y j) 15 := by
  intro y hy
  have : y = 0 ∨ y = 1 ∨ y = 2 ∨ y = 3 ∨ y = 4 ∨ y = 5 := by omega
  rcases this with rfl | rfl | rfl | rfl | rfl | rfl <;> simp [cnt, incE, eAs, eBs, dgF, bt_tb]
theorem regB_of {E : Nat} (h : ∀ y, y < 6 → dgF E y = 0 ∨ dgF E y = 2) : regB E = true := by
  have key : ∀ y, y < 6 → okd (dgF E y) = true := fun y hy => by rcases h y hy with q | q <;> rw [q] <;> rfl
  unfold regB
  rw [key 0 (by omega), key 1 (by omega), key 2 (by omega), key 3 (by omega), key 4 (by omega), key 5 (by omega)]; rfl
theorem phi_lt {G : Gr} (hG : GrOk G) {m : Nat} : phi G m (gN G) < 2 ^ 15 := by
  apply Nat.lt_pow_two_of_testBit
  intro i hi
  cases e : (phi G m (gN G)).testBit i
  · rfl
  · obtain ⟨l, l1, -, l3⟩ := phi_ex _ e
    have := (eI_l hG l1).1
    omega
theorem cyc_in {G : Gr} (hG : GrOk G) {m : Nat} {U : Nat → Bool} (h : Cyc G m.testBit U) : phi G m (gN G) ∈ rgL := by
  have hlt : phi G m (gN G) < 32768 := phi_lt hG
  have hr : regB (phi G m (gN G)) = true := regB_of (fun y hy => by rw [dgF_e _ y hy, phi_dg hG]; exact h.1 y)
  have e : 256 * (phi G m (gN G) / 256) + phi G m (gN G) % 256 = phi G m (gN G) := Nat.div_add_mod _ _
  have := regL_d (phi G m (gN G) / 256) (by omega) (phi G m (gN G) % 256) (by omega) (by rw [e]; exact hr)
  rw [e] at this
  rcases this with h0 | h1
  · exfalso
    obtain ⟨-, -, -, l, hl, sl⟩ := h
    have := phi_at hG (m := m) hl (gN G) hl (Nat.le_refl _)
    rw [h0, Nat.zero_testBit, sl] at this
    exact absurd this (by decide)
  · simpa using h1
theorem pow_ad {a k j : Nat} (ha : a < 2 ^ k) (h : k < j) : a + 2 ^ k < 2 ^ j := by
  have : 2 ^ (k + 1) ≤ 2 ^ j := Nat.pow_le_pow_right (by omega) h
  rw [Nat.pow_succ] at this
  omega
theorem rN_le {G : Gr} (hG : GrOk G) : rN G ≤ 64 := by
  have hn := hG.2.1
  unfold rN
  rw [cnt_split (p := isRb G) (q := fun m => decide (cnt m.testBit (gN G) = 1))]
  have h1 : cnt (fun m => isRb G m && decide (cnt m.testBit (gN G) = 1)) (2 ^ gN G) ≤ 10 := by
    rw [← lst_len]
    have := nodup_len ((List.range 10).map (fun l => 2 ^ l)) (lst_nd (p := fun m => isRb G m && decide (cnt m.testBit (gN G) = 1)) (2 ^ gN G)) (fun x hx => by
      obtain ⟨x1, x2⟩ := lst_mem _ _ hx
      simp at x2
      have hr := isRb_t.mp x2.1
      obtain ⟨-, b2, -, b4⟩ := lb_d x (lt1024 x1 hn) hr.1
      have hp : pc x = 1 := by rw [pc_cntn x1 hn]; exact x2.2
      rw [List.mem_map]
      exact ⟨lb x, List.mem_range.mpr b2, (b4 hp).symm⟩)
    rw [List.length_map, List.length_range] at this
    exact this
  have h2 : cnt (fun m => isRb G m && !decide (cnt m.testBit (gN G) = 1)) (2 ^ gN G) ≤ 54 := by
    obtain ⟨F, hF⟩ : ∃ F, F = phi G (2 ^ gN G - 1) (gN G) := ⟨_, rfl⟩
    have hFa : ∀ l, l < gN G → F.testBit (eI (gA G l) (gB G l)) = true := fun l hl => by
      rw [hF, phi_at hG hl _ hl (Nat.le_refl _), Nat.testBit_two_pow_sub_one]; simp [hl]
    have hFc : cnt F.testBit 15 ≤ 10 := by
      have e := phi_cnt hG (m := 2 ^ gN G - 1) (fun _ => true) (gN G) (Nat.le_refl _)
      rw [← hF] at e
      have e2 : cnt (fun j => F.testBit j && true) 15 = cnt F.testBit 15 := cnt_cg _ (fun j _ => by simp)
      rw [e2] at e
      have := cnt_bd (p := fun l => (2 ^ gN G - 1).testBit l && true) (gN G)
      omega
    have hFn : 5 ≤ cnt (fun j => !F.testBit j) 15 := by
      have e := cnt_split (p := fun _ => true) (q := F.testBit) 15
      have e1 : cnt (fun _ : Nat => true) 15 = 15 := rfl
      have e2 : cnt (fun j => true && F.testBit j) 15 = cnt F.testBit 15 := cnt_cg _ (fun j _ => by simp)
      have e3 : cnt (fun j => true && !F.testBit j) 15 = cnt (fun j => !F.testBit j) 15 := cnt_cg _ (fun j _ => by simp)
      omega
    obtain ⟨d1, d2, -⟩ := nth_ok (p := fun j => !F.testBit j) 15 0 (by omega)
    obtain ⟨c1, c2, -⟩ := nth_ok (p := fun j => !F.testBit j) 15 1 (by omega)
    obtain ⟨b1, b2, -⟩ := nth_ok (p := fun j => !F.testBit j) 15 2 (by omega)
    obtain ⟨a1, a2, -⟩ := nth_ok (p := fun j => !F.testBit j) 15 3 (by omega)
    have o1 := nth_lt (p := fun j => !F.testBit j) (n := 15) (i := 0) (j := 1) (by omega) (by omega)
    have o2 := nth_lt (p := fun j => !F.testBit j) (n := 15) (i := 1) (j := 2) (by omega) (by omega)
    have o3 := nth_lt (p := fun j => !F.testBit j) (n := 15) (i := 2) (j := 3) (by omega) (by omega)
    generalize nth (fun j => !F.testBit j) 15 0 = l at *
    generalize nth (fun j => !F.testBit j) 15 1 = k at *
    generalize nth (fun j => !F.testBit j) 15 2 = j at *
    generalize nth (fun j => !F.testBit j) 15 3 = i at *
    have hb := cM_all a1 o3 o2 o1
    have eK : 2 ^ i + 2 ^ j + 2 ^ k + 2 ^ l = ((2 ^ l ||| 2 ^ k) ||| 2 ^ j) ||| 2 ^ i := by
      have q1 : 2 ^ l < 2 ^ k := Nat.pow_lt_pow_right (by omega) o1
      have q2 := pow_ad q1 o2
      have q3 := pow_ad q2 o3
      rw [or_add q1, or_add q2, or_add q3]; omega
    rw [eK] at hb
    unfold cM at hb
    rw [foldl_f, Nat.zero_add] at hb
    refine Nat.le_trans ?_ hb
    rw [← lst_len]
    refine nodup_lenf (f := fun m => phi G m (gN G)) _ (lst_nd _) (fun x hx y hy e => ?_) (fun x hx => ?_)
    · obtain ⟨x1, -⟩ := lst_mem _ _ hx
      obtain ⟨y1, -⟩ := lst_mem _ _ hy
      refine Nat.eq_of_testBit_eq (fun t => ?_)
      rcases Nat.lt_or_ge t (gN G) with q | q
      · have e1 := phi_at hG (m := x) q (gN G) q (Nat.le_refl _)
        have e2 := phi_at hG (m := y) q (gN G) q (Nat.le_refl _)
        have e : phi G x (gN G) = phi G y (gN G) := e
        rw [← e1, ← e2, e]
      · rw [tb_hi x1 q, tb_hi y1 q]
    · obtain ⟨x1, x2⟩ := lst_mem _ _ hx
      simp at x2
      have hr := isRb_t.mp x2.1
      rcases hr.2.2 with q | ⟨U, q⟩
      · exact absurd q x2.2
      · rw [List.mem_filter]
        refine ⟨cyc_in hG q, ?_⟩
        have hz : phi G x (gN G) &&& (((2 ^ l ||| 2 ^ k) ||| 2 ^ j) ||| 2 ^ i) = 0 := Nat.eq_of_testBit_eq (fun t => by
          have hE : ∀ t, F.testBit t = false → (phi G x (gN G)).testBit t = false := fun t ht => by
            cases e : (phi G x (gN G)).testBit t
            · rfl
            · obtain ⟨l', w1, -, w3⟩ := phi_ex _ e
              rw [w3, hFa l' w1] at ht
              exact absurd ht (by decide)
          simp at a2 b2 c2 d2
          rw [Nat.testBit_and, Nat.zero_testBit, tb_or2, tb_or2, tb_or2, Nat.testBit_two_pow]
          by_cases t1 : t = i
          · rw [t1, hE i a2, Bool.false_and]
          · by_cases t2 : t = j
            · rw [t2, hE j b2, Bool.false_and]
            · by_cases t3 : t = k
              · rw [t3, hE k c2, Bool.false_and]
              · by_cases t4 : t = l
                · rw [t4, hE l d2, Bool.false_and]
                · rw [if_neg t1, if_neg t2, if_neg t3, decide_eq_false (fun q => t4 q.symm), Bool.and_false])
        show Nat.beq (Nat.land _ _) 0 = true
        have : Nat.land (phi G x (gN G)) (((2 ^ l ||| 2 ^ k) ||| 2 ^ j) ||| 2 ^ i) = 0 := hz
        rw [this]; rfl
  omega
