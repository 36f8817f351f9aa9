/-! a text -/
theorem txt_Rel {Mx Mm Fx Fm : Mem} {G G' : Gr} {z z' : Int32} {ls ls' : Nat → Int64} (h : Cmp G z ls Mx Mm) (hx : ∀ a, ¬ (1 ≤ a ∧ a ≤ 6) → ¬ (13 ≤ a ∧ a ≤ 18) → ¬ (19 ≤ a ∧ a ≤ 25) → a ≠ 31 → Fx.1 a = Mx.1 a ∧ Fx.2 a = Mx.2 a) (x31 : Fx.1 31 0 = 0) (hm : ∀ a, 6 ≤ a → a ≠ 19 → ¬ (23 ≤ a ∧ a ≤ 25) → Fm.1 a = Mm.1 a ∧ Fm.2 a = Mm.2 a) (m0 : ∀ j, 3 ≤ j → ¬ (31 ≤ j ∧ j ≤ 35) → Fm.1 0 j = Mm.1 0 j) (m31 : Fm.1 0 31 = 0) (k0 : ∀ j, j < 3 → Fm.1 23 j = Mm.1 23 j) (k1 : ∀ j, j < 40 → Fm.1 24 j = Mm.1 24 j) (k2 : ∀ j, j < 6 → Fm.2 25 j = Mm.2 25 j) (hG : GrOk G') (hX : NetX Fx 1 G' z' ls') (hM : NetM Fm G' z' ls') (hB : Bk Fx G') : Rel Fx Fm := by
  obtain ⟨-, -, -, g4, -, g6, g7, g8, g9⟩ := h
  exact ⟨G', z', ls', hG, hX, hM, by rw [m0 8 (by omega) (by omega)]; exact g4, hB, g6.ag (by rw [(hx 0 (by omega) (by omega) (by omega) (by omega)).1]) (m0 43 (by omega) (by omega)) (fun a h1 h2 => hx a (by omega) (by omega) (by omega) (by omega)) k0 k1 k2, fun h hh => (g7 h hh).ag (hx _ (by omega) (by omega) (by omega) (by omega)) (fun a h1 h2 => by rw [(hm a (by omega) (by omega) (by omega)).1, (hm a (by omega) (by omega) (by omega)).2]; exact ⟨rfl, rfl⟩), fun s hs => (g8 s hs).ag ⟨(hx _ (by omega) (by omega) (by omega) (by omega)).1, (hx _ (by omega) (by omega) (by omega) (by omega)).2⟩ (by rw [(hm 20 (by omega) (by omega) (by omega)).1]) (by rw [(hm 21 (by omega) (by omega) (by omega)).1]) (fun i _ => by rw [(hm 22 (by omega) (by omega) (by omega)).2]), 0, by omega, x31, m31, fun i hi => absurd hi (Nat.not_lt_zero i)⟩
theorem s_33 {N : Nat} (hN : 2000 ≤ N) : St_33 N Rel := by
  intro Mx Mm h
  obtain ⟨G, z, ls, hc⟩ := id h
  obtain ⟨hG, hX, hM, -, hB, -, -, -, T, hT, t1, t2, t3⟩ := id hc
  obtain ⟨X1, e1, x1, x2⟩ := bec (N := N) (c0 := 13) (c1 := 1) (Or.inr (by omega)) hG hX
  obtain ⟨M1, d1, y1, y2, y3, y4, y5, y6⟩ := keeps_ok (N := N) (k := 1) hN (by omega) hG hM
  have d1' : f_X8_keeps N 1 Mm = some M1 := d1
  have hIt : ItN X1 M1 X1 M1 G z ls (fun j => Mm.1 18 j) T := ⟨hG, x1, hM.ag (fun j _ => by rw [y2 0 (by omega) (by omega)]) (fun a h1 h2 => ⟨y2 a (by omega) (by omega), y3 a (by omega)⟩), ⟨hT, by rw [(x2 31 (by omega)).1]; exact t1, fun j hj => by rw [(x2 32 (by omega)).1]; exact t3 j hj⟩, ⟨hT, by rw [y2 0 (by omega) (by omega)]; exact t2, fun j hj => by rw [y2 18 (by omega) (by omega)]⟩, fun _ _ _ => rfl, fun _ _ => rfl, fun _ _ _ => rfl, fun _ _ => rfl, fun _ _ _ => rfl⟩
  unfold f_X7_text f_X8_text
  rw [e1, d1', bd_s, bd_s]
  rcases all_it (N := N) hN hIt with ⟨A, B, s, r1, r2, hs, r3, i1, i2, i3, i4, i5⟩ | ⟨A, B, G', ls', k, r1, r2, hk, g1, g2, g3, i1, i2, i3, i4, i5⟩
  · have neg : -100 - nI s < 0 := by
      have : (-100 - nI s).toInt = -100 - (s : Int) := by
        rw [Int32.toInt_sub, nI_toInt (by omega)]
        have : (-100 : Int32).toInt = -100 := rfl
        rw [this]; apply Int.bmod_eq_of_le <;> omega
      rw [i_lt, this]; have e0 : (0 : Int32).toInt = 0 := rfl; omega
    have b0 : ∀ j, j ≠ 31 → (setI B 0 31 0).1 0 j = B.1 0 j := fun j hj => by rw [setI_1, if_pos rfl, if_neg hj]
    have b1 : ∀ a, a ≠ 0 → (setI B 0 31 0).1 a = B.1 a := fun a ha => setI_o ha
    have kp : KeptM (setI B 0 31 0) 1 G z ls := y1.ag (fun j _ _ => by rw [b1 23 (by omega), i3 23 (by omega) (by omega)]) (fun j _ _ => by rw [b1 24 (by omega), i3 24 (by omega) (by omega)]) (fun j _ _ => by show B.2 25 j = _; rw [i4 25 (by omega)]) hG
    obtain ⟨M8, p1, p2, p3, p4⟩ := puts_ok (N := N) (k := 1) hN (by omega) hG kp
    have p1' : f_X8_putsBack N 1 (setI B 0 31 0) = some M8 := p1
    rw [r1, r2, bd_s, bd_s]
    dsimp only
    rw [nm_e1, nm_e1, if_pos neg, if_pos rfl, p1', bd_s, p4 32 (by omega), b0 32 (by omega), r3]
    refine ⟨_, _, _, rfl, rfl, ?_⟩
    have w1 : ∀ a, ¬ (13 ≤ a ∧ a ≤ 18) → a ≠ 31 → (setI A 31 0 0).1 a = Mx.1 a ∧ (setI A 31 0 0).2 a = Mx.2 a := fun a a1 a2 => ⟨by rw [setI_o a2, i1 a a1 a2, (x2 a (by omega)).1], by show A.2 a = _; rw [i2 a a1, (x2 a (by omega)).2]⟩
    refine txt_Rel hc (fun a a1 a2 a3 a4 => w1 a a2 a4) (by simp [setI_1]) (fun a a1 a2 a3 => ⟨by rw [(p3 a a1).1, b1 a (by omega), i3 a a1 a2, y2 a (by omega) (by omega)], by rw [(p3 a a1).2]; show B.2 a = _; rw [i4 a a1, y3 a (by omega)]⟩) (fun j j1 j2 => by rw [p4 j j1, b0 j (by omega), i5 j j1 (by omega), y2 0 (by omega) (by omega)]) (by rw [p4 31 (by omega)]; simp [setI_1]) (fun j hj => by rw [(p3 23 (by omega)).1, b1 23 (by omega), i3 23 (by omega) (by omega), y4 j (by omega)]) (fun j hj => by rw [(p3 24 (by omega)).1, b1 24 (by omega), i3 24 (by omega) (by omega), y5 j (by omega)]) (fun j hj => by rw [(p3 25 (by omega)).2]; show B.2 25 j = _; rw [i4 25 (by omega), y6 j (by omega)]) hG (hX.ag (fun a a1 a2 => w1 a (by omega) (by omega))) p2 (hB.ag (fun a a1 a2 => (w1 a (by omega) (by omega)).1))
  · have pos : ¬ nI k < 0 := fun q => by rw [i_lt, nI_toInt (by omega)] at q; have e0 : (0 : Int32).toInt = 0 := rfl; omega
    have ne1 : ¬ nI k = -1 := fun q => by have := congrArg Int32.toInt q; rw [nI_toInt (by omega)] at this; have e1 : (-1 : Int32).toInt = -1 := rfl; omega
    have nx : NetX (fgt (setI A 31 0 0)) 13 G' z ls' := g2.ag (fun a a1 a2 => ⟨by rw [fgt_o (by omega), setI_o (by omega)], rfl⟩)
    obtain ⟨F, p1, p2, p3⟩ := bec (N := N) (c0 := 1) (c1 := 13) (Or.inl (by omega)) g1 nx
    rw [r1, r2, bd_s, bd_s]
    dsimp only
    rw [nm_e1, nm_e1, if_neg pos, if_neg ne1, fgt_e, bd_s, p1, bd_s]
    refine ⟨_, _, _, rfl, rfl, ?_⟩
    have b0 : ∀ j, j ≠ 31 → (setI B 0 31 0).1 0 j = B.1 0 j := fun j hj => by rw [setI_1, if_pos rfl, if_neg hj]
    have b1 : ∀ a, a ≠ 0 → (setI B 0 31 0).1 a = B.1 a := fun a ha => setI_o ha
    refine txt_Rel hc (fun a a1 a2 a3 a4 => ⟨by rw [(p3 a (by omega)).1, fgt_o (by omega), setI_o a4, i1 a a2 a4, (x2 a (by omega)).1], by rw [(p3 a (by omega)).2]; show A.2 a = _; rw [i2 a a2, (x2 a (by omega)).2]⟩) (by rw [(p3 31 (by omega)).1, fgt_o (by omega)]; simp [setI_1]) (fun a a1 a2 a3 => ⟨by rw [b1 a (by omega), i3 a a1 a2, y2 a (by omega) (by omega)], by show B.2 a = _; rw [i4 a a1, y3 a (by omega)]⟩) (fun j j1 j2 => by rw [b0 j (by omega), i5 j j1 (by omega), y2 0 (by omega) (by omega)]) (by simp [setI_1]) (fun j hj => by rw [b1 23 (by omega), i3 23 (by omega) (by omega), y4 j (by omega)]) (fun j hj => by rw [b1 24 (by omega), i3 24 (by omega) (by omega), y5 j (by omega)]) (fun j hj => by show B.2 25 j = _; rw [i4 25 (by omega), y6 j (by omega)]) g1 p2 (g3.ag (fun j hj => b0 j (by omega)) (fun a a1 a2 => ⟨b1 a (by omega), rfl⟩)) (fgt_Bk (M := setI A 31 0 0) (p3 19 (by omega)).1)
