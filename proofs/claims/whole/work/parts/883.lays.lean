/-- first point with a line, or none -/
def FsR (G : Gr) (m p : Nat) (f : Int32) : Prop := ((∀ y, y < p → dg G m.testBit y = 0) ∧ f = -1) ∨ ∃ y, y < p ∧ 0 < dg G m.testBit y ∧ f = nI y
theorem ptS (G : Gr) (m p : Nat) : mk (fun y => decide (0 < dg G m.testBit y)) (p + 1) = mk (fun y => decide (0 < dg G m.testBit y)) p + (if 0 < dg G m.testBit p then 2 ^ p else 0) := by
  show mk _ p + (if decide (0 < dg G m.testBit p) = true then 2 ^ p else 0) = _
  by_cases c : 0 < dg G m.testBit p <;> simp [c]
theorem takM {N : Nat} (hN : 2000 ≤ N) {G : Gr} {z : Int32} {ls : Nat → Int64} {M : Mem} (hG : GrOk G) (h : NetM M G z ls) {m i : Nat} (hm : m < 2 ^ gN G) (h0 : m ≠ 0) (hi : M.1 0 17 = nI i) (hi2 : i < 200) : TkR G M i m (f_X8_takes N (nI m) M) := by
  have hn := hG.2.1
  have hP := hG.1
  have hm10 := lt1024 hm hn
  unfold f_X8_takes
  refine lp_S (S := TkR G M i m) (fun k (a : Int32 × Int32 × Int32 × Int32 × Int32) => ∃ p d f, p + k = gP G ∧ a = (d, nI (mk (fun y => decide (0 < dg G m.testBit y)) p), bB (dgo G m.testBit p), f, nI p) ∧ FsR G m p f) (fun k a rc hJ => ?_) N (gP G) _ ⟨0, 0, -1, by omega, rfl, Or.inl ⟨fun y hy => by omega, rfl⟩⟩ (by omega)
  obtain ⟨p, d, f, hk, rfl, hf⟩ := hJ
  dsimp only
  rw [h.1]
  cases k with
  | zero =>
    left
    have e : p = gP G := by omega
    subst e
    rw [if_pos (nI_le (a := gP G) (b := gP G) (Nat.le_refl _) (by omega))]
    obtain ⟨l0, hl0⟩ := ne_tb h0
    have l0n : l0 < gN G := by
      rcases Nat.lt_or_ge l0 (gN G) with q | q
      · exact q
      · rw [tb_hi hm q] at hl0; exact absurd hl0 (by decide)
    obtain ⟨-, -, -, o4, o5⟩ := hG.2.2.1 l0 l0n
    have hda : 0 < dg G m.testBit (gA G l0) := cnt_pos l0n (by simp [hl0, inc])
    rcases hf with ⟨hf, -⟩ | ⟨y, y1, y2, rfl⟩
    · exfalso; have := hf (gA G l0) (by omega); omega
    · cases c : dgo G m.testBit (gP G)
      · obtain ⟨w, w1, w2, w3⟩ := dgo_f _ c
        exact tkW hN hG h (s := 0) (k := 0) hm h0 hi hi2 (Or.inl ⟨rfl, rfl, fun U hC => by have := hC.1 w; omega⟩)
      · have hd : ∀ y, dg G m.testBit y = 0 ∨ dg G m.testBit y = 2 := fun w => by
          rcases Nat.lt_or_ge w (gP G) with q | q
          · exact dgo_t _ c w q
          · exact Or.inl (dg_hi hG q)
        refine tkW hN hG h (s := y) (k := cnt (fun l => m.testBit l && !(0 : Nat).testBit l) (gN G) + 1) hm h0 hi hi2 (Or.inr ⟨y, 0, 0, rfl, ?_, ?_, fun l q => q, by omega, hd, y2⟩)
        · rw [adn_0, adn_0]; rfl
        · rw [tb_z]; exact Trl.nil
  | succ k =>
    right
    have hp : p < gP G := by omega
    rw [if_neg (nI_ge hp (by omega))]
    obtain ⟨f', hf', hfe⟩ : ∃ f', FsR G m (p + 1) f' ∧ f' = (if 0 < dg G m.testBit p ∧ f = -1 then nI p else f) := by
      refine ⟨_, ?_, rfl⟩
      rcases hf with ⟨hf, rfl⟩ | ⟨y, y1, y2, rfl⟩
      · by_cases c : 0 < dg G m.testBit p
        · rw [if_pos ⟨c, rfl⟩]; exact Or.inr ⟨p, by omega, c, rfl⟩
        · rw [if_neg (fun q => c q.1)]
          refine Or.inl ⟨fun y hy => ?_, rfl⟩
          by_cases e : y = p
          · rw [e]; omega
          · exact hf y (by omega)
      · rw [if_neg (fun q => by have := congrArg Int32.toInt q.2; rw [nI_toInt (by omega)] at this; have e1 : (-1 : Int32).toInt = -1 := rfl; omega)]
        exact Or.inr ⟨y, by omega, y2, rfl⟩
    have hdg : dg G m.testBit p ≤ 10 := by have : dg G m.testBit p ≤ gN G := cnt_bd _; omega
    refine ⟨k, (d + nI (dg G m.testBit p), nI (mk (fun y => decide (0 < dg G m.testBit y)) (p + 1)), bB (dgo G m.testBit (p + 1)), f', nI (p + 1)), by omega, ⟨p + 1, _, _, by omega, rfl, hf'⟩, ?_⟩
    refine lp_cnt (gN G) (fun l (a : Int32 × Int32) => a = (nI (cnt (fun j => m.testBit j && inc G j p) l), nI l)) (fun l a rc' hl hI => Or.inr ?_) (fun a rc' hI => ?_) N 0 _ (by omega) rfl (by omega)
    · subst hI
      refine ⟨(nI (cnt (fun j => m.testBit j && inc G j p) (l + 1)), nI (l + 1)), rfl, ?_⟩
      have l10 : inb (nI l) 10 := inb_nI (by omega) (by decide)
      have cl : (nI l).toNatClampNeg = l := nI_clamp (by omega)
      obtain ⟨-, -, k3, k4⟩ := h.2.2.2.1 l hl
      obtain ⟨-, -, -, o4, o5⟩ := hG.2.2.1 l hl
      dsimp only
      rw [h.2.1, if_neg (nI_ge hl (by omega)), hasM (by omega) (by omega), bd_s]
      simp only [jn_e, nm_e1, nI_1, ck_t l10, cl, k3, k4]
      show _ = rc' (nI (cnt (fun j => m.testBit j && inc G j p) l + (m.testBit l && inc G l p).toNat), _)
      have z0 : nI (cnt (fun j => m.testBit j && inc G j p) l) + 0 = nI (cnt (fun j => m.testBit j && inc G j p) l + 0) := nI_add _ 0
      have z1 : nI (cnt (fun j => m.testBit j && inc G j p) l) + 1 = nI (cnt (fun j => m.testBit j && inc G j p) l + 1) := nI_add _ 1
      cases c : m.testBit l
      · rw [if_pos (show bB false = 0 from rfl), z0]; rfl
      · rw [if_neg (show ¬ bB true = 0 by decide)]
        by_cases c1 : gA G l = p
        · rw [if_pos (by rw [c1]), show inc G l p = true by simp [inc, c1]]; rfl
        · rw [if_neg (nI_ne (by omega) (by omega) c1)]
          by_cases c2 : gB G l = p
          · rw [if_pos (by rw [c2]), show inc G l p = true by simp [inc, c2]]; rfl
          · rw [if_neg (nI_ne (by omega) (by omega) c2), show inc G l p = false by simp [inc, c1, c2], z0]; rfl
    · subst hI
      dsimp only
      rw [h.2.1, if_pos (nI_le (a := gN G) (b := gN G) (Nat.le_refl _) (by omega))]
      show _ = rc (d + nI (dg G m.testBit p), _, bB (dgo G m.testBit p && (decide (dg G m.testBit p = 0) || decide (dg G m.testBit p = 2))), f', _)
      have edg : cnt (fun j => m.testBit j && inc G j p) (gN G) = dg G m.testBit p := rfl
      rw [edg, ptS]
      simp only [jn_e, nm_e1, nI_1]
      generalize dg G m.testBit p = n at *
      have hT : nI (mk (fun y => decide (0 < dg G m.testBit y)) p) ||| 0 = nI (mk (fun y => decide (0 < dg G m.testBit y)) p + 0) := by rw [show (0 : Int32) = nI 0 from rfl, nI_or, Nat.or_zero]; rfl
      have hT2 : nI (mk (fun y => decide (0 < dg G m.testBit y)) p) ||| ((1 : Int32) <<< (nI p &&& 31)) = nI (mk (fun y => decide (0 < dg G m.testBit y)) p + 2 ^ p) := orbit (mk_lt p) (by omega)
      subst hfe
      by_cases n0 : n = 0
      · subst n0
        simp only [if_pos (show nI 0 = 0 from rfl), if_pos (show nI 0 ≤ 0 by decide), hT, if_neg (show ¬ 0 < 0 by omega), if_neg (show ¬ (0 < 0 ∧ f = -1) from fun q => absurd q.1 (by omega))]
        cases dgo G m.testBit p <;> rfl
      · have np : ¬ nI n ≤ 0 := nI_nle (by omega) (by omega)
        have nz : ¬ nI n = 0 := nI_ne0 (by omega) (by omega)
        rw [if_neg nz]
        simp only [if_neg np, hT2, if_pos (show 0 < n by omega), decide_eq_false n0, Bool.false_or]
        by_cases n2 : n = 2
        · subst n2
          rw [if_pos (show nI 2 = (2 : Int32) from rfl)]
          by_cases cf : f = -1
          · simp only [if_pos cf, if_pos (show 0 < 2 ∧ f = -1 from ⟨by omega, cf⟩)]
            cases dgo G m.testBit p <;> rfl
          · simp only [if_neg cf, if_neg (show ¬ (0 < 2 ∧ f = -1) from fun q => cf q.2)]
            cases dgo G m.testBit p <;> rfl
        · rw [if_neg (show ¬ nI n = (2 : Int32) from nI_ne (b := 2) (by omega) (by decide) n2)]
          by_cases cf : f = -1
          · simp only [if_pos cf, if_pos (show 0 < n ∧ f = -1 from ⟨by omega, cf⟩), decide_eq_false n2]
            cases dgo G m.testBit p <;> rfl
          · simp only [if_neg cf, if_neg (show ¬ (0 < n ∧ f = -1) from fun q => cf q.2), decide_eq_false n2]
            cases dgo G m.testBit p <;> rfl
