theorem FrA.st {M A : Mem} {G : Gr} (hG : GrOk G) {i : Nat} (hi : i < gN G) (h : FrA M A G i) : FrA M (setI (setI A 22 (gA G i) (nI (mk (fun l => inc G l (gA G i)) i + 2 ^ i))) 22 (gB G i) (nI (mk (fun l => inc G l (gB G i)) i + 2 ^ i))) G (i + 1) := by
  obtain ⟨h1, h2, h3, h4, h5⟩ := h
  obtain ⟨-, -, -, o4, o5⟩ := hG.2.2.1 i hi
  refine ⟨h1.tr (Ag.tr (Ag.setI (by simp)) (Ag.setI (by simp))), by simp [setI_1, h2], by simp [setI_1, h3], by simp [setI_1, h4], fun x hx => ?_⟩
  show _ = nI (mk (fun l => inc G l x) i + (if inc G i x then 2 ^ i else 0))
  rw [setI_1, if_pos rfl, setI_1, if_pos rfl]
  by_cases c1 : x = gB G i
  · rw [if_pos c1, c1, if_pos (show inc G i (gB G i) = true by simp [inc])]
  · rw [if_neg c1]
    by_cases c2 : x = gA G i
    · rw [if_pos c2, c2, if_pos (show inc G i (gA G i) = true by simp [inc])]
    · have e : inc G i x = false := by simp [inc]; exact ⟨fun q => c2 q.symm, fun q => c1 q.symm⟩
      rw [if_neg c2, h5 x hx, e]; rfl
theorem two_le {n : Nat} (h : n ≤ 10) : 2 ^ n ≤ 1024 := (Nat.pow_le_pow_right (by omega) h : 2 ^ n ≤ 2 ^ 10)
/-- there are no more than 64 rings -/
theorem findX {N : Nat} (hN : 2000 ≤ N) {G : Gr} {z : Int32} {ls : Nat → Int64} {M : Mem} (hG : GrOk G) (hR : rN G ≤ 64) (h : NetX M 1 G z ls) (hb : Bk M G) : ∃ M', f_X4_findRings N 1 M = some M' ∧ Ag [19, 20, 21, 22, 23, 24] M M' ∧ M'.1 19 5 = 1 ∧ M'.1 19 6 = M.1 19 6 ∧ RgX M' G ∧ (M.1 19 5 = 1 → M' = M) := by
  have hn := hG.2.1
  have hP := hG.1
  have h2n := two_le hn
  unfold f_X4_findRings
  rcases hb.1 with h5 | h5
  rotate_left
  · rw [if_neg (by rw [h5]; decide)]
    exact ⟨M, rfl, Ag.rf, h5, rfl, hb.2.2.1 h5, fun _ => rfl⟩
  have h15 : ¬ M.1 19 5 = 1 := by rw [h5]; decide
  rw [if_pos h5, ck_t (Or.inr rfl), nm_e1, nm_e1, nm_e1]
  have e1 : (setI (setI M 19 5 1) 19 0 0).1 1 1 = nI (gN G) := by rw [setI_o (by decide), setI_o (by decide)]; exact h.2.1
  rw [e1, sh1 (show gN G < 31 by omega), fillI_e 22 6 0 _ hN (by decide), bd_s]
  have hF : FrA M (segI (setI (setI (setI M 19 5 1) 19 0 0) 19 7 (nI (2 ^ gN G))) 22 0 6 0) G 0 := by
    refine ⟨fun a ha => ?_, by simp [segI, setI_1], by simp [segI, setI_1], by simp [segI, setI_1], fun x hx => ?_⟩
    · simp at ha
      refine ⟨?_, rfl⟩
      funext b
      simp [segI, setI_1, ha]
    · show (if (22 : Nat) = 22 ∧ 0 ≤ x ∧ x < 0 + 6 then (0 : Int32) else _) = nI 0
      rw [if_pos ⟨rfl, by omega, by omega⟩]; rfl
  have hF0 : (segI (setI (setI (setI M 19 5 1) 19 0 0) 19 7 (nI (2 ^ gN G))) 22 0 6 0).1 19 0 = 0 := by simp [segI, setI_1]
  generalize segI (setI (setI (setI M 19 5 1) 19 0 0) 19 7 (nI (2 ^ gN G))) 22 0 6 0 = A0 at hF hF0 ⊢
  refine lp_S (S := fun o => ∃ M', o = some M' ∧ Ag [19, 20, 21, 22, 23, 24] M M' ∧ M'.1 19 5 = 1 ∧ M'.1 19 6 = M.1 19 6 ∧ RgX M' G ∧ (M.1 19 5 = 1 → M' = M)) (fun k (a : Int32 × Mem) => ∃ i A, i + k = gN G ∧ a = (nI i, A) ∧ FrA M A G i ∧ A.1 19 0 = 0) (fun k a rc hJ => ?_) N (gN G) _ ⟨0, A0, by omega, rfl, hF, hF0⟩ (by omega)
  obtain ⟨i, A, hk, rfl, hA, hA0⟩ := hJ
  have hX := hA.net h
  dsimp only
  cases k with
  | succ k =>
    right
    have hi : i < gN G := by omega
    obtain ⟨-, -, k3, k4⟩ := hX.2.2.2.1 i hi
    obtain ⟨-, -, -, o4, o5⟩ := hG.2.2.1 i hi
    have i10 : inb (nI i) 10 := inb_nI (by omega) (by decide)
    have ci : (nI i).toNatClampNeg = i := nI_clamp (by omega)
    have a6 : inb (nI (gA G i)) 6 := inb_nI (by omega) (by decide)
    have ca : (nI (gA G i)).toNatClampNeg = gA G i := nI_clamp (by omega)
    have b6 : inb (nI (gB G i)) 6 := inb_nI (by omega) (by decide)
    have cb : (nI (gB G i)).toNatClampNeg = gB G i := nI_clamp (by omega)
    have t := hA.2.2.2.2
    refine ⟨k, _, by omega, ⟨i + 1, _, by omega, rfl, hA.st hG hi, by simp [setI_1, hA0]⟩, ?_⟩
    rw [hX.2.1, if_neg (nI_ge hi (by omega))]
    have k4' : (setI A 22 (gA G i) (nI (mk (fun l => inc G l (gA G i)) i + 2 ^ i))).1 (1 + 4) i = nI (gB G i) := by rw [setI_o (by decide)]; exact k4
    have tb' : (setI A 22 (gA G i) (nI (mk (fun l => inc G l (gA G i)) i + 2 ^ i))).1 22 (gB G i) = nI (mk (fun l => inc G l (gB G i)) i) := by rw [setI_1, if_pos rfl, if_neg (by omega)]; exact t _ (by omega)
    simp only [ck_t i10, ci, k3, ck_t a6, ca, nm_e1, t (gA G i) (by omega), orbit (mk_lt i) (show i < 31 by omega), k4', ck_t b6, cb, tb', nI_1]
  | zero =>
    left
    have hi : i = gN G := by omega
    subst hi
    rw [hX.2.1, if_pos (nI_le (a := gN G) (b := gN G) (Nat.le_refl _) (by omega))]
    have hS1 : RgS A G 1 := by
      have h0 : ¬ isR G 0 := fun q => q.1 rfl
      refine ⟨?_, fun m hm hr => ?_⟩
      · rw [cnt_s0 (isRb_f h0)]; exact hA0
      · have : m = 0 := by omega
        subst this; exact absurd hr h0
    have hpos : 0 < 2 ^ gN G := Nat.two_pow_pos _
    refine lp_S (S := fun o => ∃ M', o = some M' ∧ Ag [19, 20, 21, 22, 23, 24] M M' ∧ M'.1 19 5 = 1 ∧ M'.1 19 6 = M.1 19 6 ∧ RgX M' G ∧ (M.1 19 5 = 1 → M' = M)) (fun k (a : Int32 × Mem) => ∃ s B, s + k = 2 ^ gN G ∧ 1 ≤ s ∧ a = (nI s, B) ∧ FrA M B G (gN G) ∧ RgS B G s) (fun k a rc hJ => ?_) N (2 ^ gN G - 1) _ ⟨1, A, by omega, by omega, rfl, hA, hS1⟩ (by omega)
    obtain ⟨s, B, hk, hs1, rfl, hB, hS⟩ := hJ
    have hXB := hB.net h
    dsimp only
    rw [hB.2.2.2.1]
    cases k with
    | zero =>
      left
      have hs : s = 2 ^ gN G := by omega
      subst hs
      rw [if_pos (nI_le (Nat.le_refl _) (by omega))]
      exact ⟨B, rfl, hB.1, hB.2.1, hB.2.2.1, hS.fin hB.2.2.2.1, fun q => absurd q h15⟩
    | succ k =>
      right
      have hs : s < 2 ^ gN G := by omega
      have hs10 := lt1024 hs hn
      have hpc := pc_cntn hs hn
      rw [if_neg (nI_ge hs (by omega)), bcX hs10, bd_s]
      simp only [jn_e, nm_e1, nI_1]
      have h64 : isR G s → cnt (isRb G) s < 64 := fun q => by have := isR_lt q; omega
      by_cases c1 : pc s = 1
      · have hr : isR G s := ⟨by omega, hs, Or.inl (by rw [← hpc]; exact c1)⟩
        have hln : lnS (gG G) s (gN G) * 2 = lnR (gN G) (gG G) s := by unfold lnR; rw [if_pos (by rw [← hpc]; exact c1)]
        rw [if_pos (by rw [c1]; rfl), show (2 : Int32) = nI 2 from rfl, adX hN hG hXB hs hS.1 (h64 hr), bd_s, hln]
        exact ⟨k, _, by omega, ⟨s + 1, _, by omega, by omega, rfl, hB.add _ _ _ _ _, hS.add hr ⟨fun l q => q, Or.inl ⟨by rw [← hpc]; exact c1, rfl⟩⟩⟩, rfl⟩
      · rw [if_neg (ne1 (by have := pc_le s; omega) c1)]
        have c1' : ¬ cnt s.testBit (gN G) = 1 := by rw [← hpc]; exact c1
        by_cases c2 : pc s ≤ 2
        · rw [if_pos (show nI (pc s) ≤ (2 : Int32) from nI_le (b := 2) c2 (by decide))]
          refine ⟨k, _, by omega, ⟨s + 1, _, by omega, by omega, rfl, hB, hS.no (fun q => ?_)⟩, rfl⟩
          rcases q.2.2 with q | ⟨U, q⟩
          · exact c1' q
          · have := q.three hG; omega
        · rw [if_neg (show ¬ nI (pc s) ≤ (2 : Int32) from nI_ge (a := 2) (by omega) (by have := pc_le s; omega)), hXB.1]
          by_cases c3 : gP G < pc s
          · rw [if_pos (nI_lt c3 (by have := pc_le s; omega))]
            refine ⟨k, _, by omega, ⟨s + 1, _, by omega, by omega, rfl, hB, hS.no (fun q => ?_)⟩, rfl⟩
            rcases q.2.2 with q | ⟨U, q⟩
            · exact c1' q
            · have := q.most hG; omega
          · rw [if_neg (nI_nlt (by omega) (by omega))]
            obtain ⟨r, r1, r2⟩ := goX (N := N) hN hG hXB hB.2.2.2.2 hs (by omega)
            rw [r1, bd_s]
            rcases r2 with ⟨u, rfl, u1, u2, u3⟩ | ⟨rfl, r2⟩
            · have hr : isR G s := ⟨by omega, hs, Or.inr ⟨_, u3⟩⟩
              have hln : lnS (gG G) s (gN G) * 1 = lnR (gN G) (gG G) s := by unfold lnR; rw [if_neg c1']
              rw [if_neg (nI_pos (by have := lt1024 u1 hn; omega)), show (1 : Int32) = nI 1 from rfl, adX hN hG hXB hs hS.1 (h64 hr), bd_s, hln]
              exact ⟨k, _, by omega, ⟨s + 1, _, by omega, by omega, rfl, hB.add _ _ _ _ _, hS.add hr ⟨u2, Or.inr u3⟩⟩, rfl⟩
            · rw [if_pos (by decide)]
              refine ⟨k, _, by omega, ⟨s + 1, _, by omega, by omega, rfl, hB, hS.no (fun q => ?_)⟩, rfl⟩
              rcases q.2.2 with q | ⟨U, q⟩
              · exact c1' q
              · exact r2 U q
