/-! items of a text: both sides -/
def Ifr (Mx Mm A B : Mem) : Prop := (∀ a, ¬ (13 ≤ a ∧ a ≤ 18) → a ≠ 31 → A.1 a = Mx.1 a) ∧ (∀ a, ¬ (13 ≤ a ∧ a ≤ 18) → A.2 a = Mx.2 a) ∧ (∀ a, 6 ≤ a → a ≠ 19 → B.1 a = Mm.1 a) ∧ (∀ a, 6 ≤ a → B.2 a = Mm.2 a) ∧ ∀ j, 3 ≤ j → ¬ (32 ≤ j ∧ j ≤ 35) → B.1 0 j = Mm.1 0 j
theorem Ifr.st {Mx Mm A B A' B' : Mem} (h : Ifr Mx Mm A B) (hA : RdA A A') (hB : IsA B B') : Ifr Mx Mm A' B' := by
  obtain ⟨h1, h2, h3, h4, h5⟩ := h
  exact ⟨fun a a1 a2 => (hA.1 a a2).trans (h1 a a1 a2), fun a a1 => by rw [hA.2.2]; exact h2 a a1, fun a a1 a2 => (hB.1 a (by omega) a2).trans (h3 a a1 a2), fun a a1 => by rw [hB.2.2]; exact h4 a a1, fun j j1 j2 => (hB.2.1 j j2).trans (h5 j j1 j2)⟩
def ItN (Mx Mm A B : Mem) (G : Gr) (z : Int32) (ls : Nat → Int64) (tp : Nat → Int32) (T : Nat) : Prop := GrOk G ∧ NetX A 13 G z ls ∧ NetM B G z ls ∧ TpX A tp T ∧ TpM B tp T ∧ Ifr Mx Mm A B
theorem ItN.st {Mx Mm A B A' B' : Mem} {G : Gr} {z : Int32} {ls : Nat → Int64} {tp : Nat → Int32} {T : Nat} (h : ItN Mx Mm A B G z ls tp T) (hA : RdA A A') (hB : IsA B B') : ItN Mx Mm A' B' G z ls tp T := by
  obtain ⟨h1, h2, h3, h4, h5, h6⟩ := h
  exact ⟨h1, hA.net h2 (by omega), hB.net h3, hA.tp h4, hB.tp h5, h6.st hA hB⟩
/-- the class stands before a token, the reference has it -/
def ItS (Mx Mm A B : Mem) (G : Gr) (z : Int32) (ls : Nat → Int64) (tp : Nat → Int32) (T pos : Nat) : Prop := ItN Mx Mm A B G z ls tp T ∧ pos ≤ T ∧ A.1 31 4 = nI pos ∧ RqM B tp T pos
/-- both have it -/
def ItT (Mx Mm A B : Mem) (G : Gr) (z : Int32) (ls : Nat → Int64) (tp : Nat → Int32) (T pos : Nat) : Prop := ItN Mx Mm A B G z ls tp T ∧ pos ≤ T ∧ CqX A tp T pos ∧ RqM B tp T pos
def Flt (Mx Mm A B : Mem) : Prop := Ifr Mx Mm A B ∧ ∃ s, s ≤ 120 ∧ A.1 31 3 = nI s ∧ B.1 0 32 = nI s
def ItR (Mx Mm : Mem) (z : Int32) (tp : Nat → Int32) (T pos : Nat) (o o' : Option (Int32 × Mem)) : Prop := (∃ A B, o = some (0, A) ∧ o' = some (0, B) ∧ Flt Mx Mm A B) ∨ ∃ A B G ls e, o = some (1, A) ∧ o' = some (1, B) ∧ ItS Mx Mm A B G z ls tp T e ∧ pos < e
theorem ItR.up {Mx Mm : Mem} {z : Int32} {tp : Nat → Int32} {T pos e : Nat} {o o' : Option (Int32 × Mem)} (h : ItR Mx Mm z tp T e o o') (he : pos ≤ e) : ItR Mx Mm z tp T pos o o' := by
  rcases h with h | ⟨A, B, G, ls, e', h1, h2, h3, h4⟩
  · exact Or.inl h
  · exact Or.inr ⟨A, B, G, ls, e', h1, h2, h3, by omega⟩
theorem flt_T {Mx Mm A B : Mem} {G : Gr} {z : Int32} {ls : Nat → Int64} {tp : Nat → Int32} {T pos : Nat} (h : ItT Mx Mm A B G z ls tp T pos) : Flt Mx Mm A B := by
  obtain ⟨h1, h2, h3, h4⟩ := h
  have := (tq_bd (tp := tp) h2).2.1
  have := h1.2.2.2.1.1
  exact ⟨h1.2.2.2.2.2, _, by omega, h3.2.1, h4.2.1⟩
/-- the reference goes on -/
theorem go_st {N : Nat} (hN : 2000 ≤ N) {Mx Mm A B : Mem} {G : Gr} {z : Int32} {ls : Nat → Int64} {tp : Nat → Int32} {T pos : Nat} (h : ItT Mx Mm A B G z ls tp T pos) (hk : tqK tp T pos ≠ 4) (hk0 : tqK tp T pos ≠ 0) : ∃ B', f_X8_goes N B = some B' ∧ ItS Mx Mm A B' G z ls tp T (tqE tp T pos) ∧ pos < tqE tp T pos ∧ B'.1 19 = B.1 19 := by
  obtain ⟨h1, h2, h3, h4⟩ := h
  obtain ⟨b1, b2, b3, b4, b5, b6⟩ := tq_bd (tp := tp) h2
  obtain ⟨C, g1, g2, g3⟩ := goM (N := N) hN h1.2.2.2.2.1 b4 (h4.2.2.1 hk)
  exact ⟨C, g1, ⟨h1.st ⟨fun _ _ => rfl, rfl, rfl⟩ g2.is, b4, h3.2.2.1, g3⟩, by have := b6 hk0; omega, g2.1 19 (by omega)⟩
/-- a number -/
theorem num_st {N : Nat} (hN : 2000 ≤ N) {Mx Mm A B : Mem} {G : Gr} {z : Int32} {ls : Nat → Int64} {tp : Nat → Int32} {T pos kk : Nat} (h : ItS Mx Mm A B G z ls tp T pos) (hkk : kk < 4) {lo hi : Int32} (hhi : hi.toInt ≤ 39) : (∃ A', f_X6_readNumber N lo hi A = some (-1, A') ∧ f_X8_isRead N (nI kk) lo hi B = some (0, B) ∧ Flt Mx Mm A' B) ∨ (∃ v A' B' e, lo ≤ nI v ∧ nI v ≤ hi ∧ v ≤ 39 ∧ f_X6_readNumber N lo hi A = some (nI v, A') ∧ f_X8_isRead N (nI kk) lo hi B = some (1, B') ∧ ItS Mx Mm A' B' G z ls tp T e ∧ pos < e ∧ Flt Mx Mm A' B ∧ B'.1 19 kk = nI v ∧ (∀ j, j ≠ kk → B'.1 19 j = B.1 19 j) ∧ B.1 0 34 = 2 ∧ B.1 0 35 = nI v) := by
  obtain ⟨h1, h2, h3, h4⟩ := h
  have hT := h1.2.2.2.1.1
  have hsb := (tq_bd (tp := tp) h2).2.1
  obtain ⟨A', a1, a2⟩ := num_rr (N := N) hN hkk (lo := lo) hhi h1.2.2.2.1 h2 h3 h1.2.2.2.2.1 h4
  rcases a2 with ⟨q1, q2, q3, q4⟩ | ⟨v, B', l1, l2, l3, q1, q2, q3, q4, q5, q6, q7, q8, q9, q10, q11, q12⟩
  · exact Or.inl ⟨A', q1, q2, h1.2.2.2.2.2.st a1 IsA.rf, _, by omega, q3, q4⟩
  · exact Or.inr ⟨v, A', B', _, l1, l2, l3, q1, q2, ⟨h1.st a1 q8, q6, q4, q7⟩, q5, ⟨h1.2.2.2.2.2.st a1 IsA.rf, _, by omega, q3, h4.2.1⟩, q9, q10, by rw [h4.1, q11]; rfl, q12⟩
/-- the class reads a token -/
theorem tok_st {N : Nat} (hN : 2000 ≤ N) {Mx Mm A B : Mem} {G : Gr} {z : Int32} {ls : Nat → Int64} {tp : Nat → Int32} {T pos : Nat} (h : ItS Mx Mm A B G z ls tp T pos) : ∃ A', f_X6_readToken N A = some A' ∧ ItT Mx Mm A' B G z ls tp T pos := by
  obtain ⟨h1, h2, h3, h4⟩ := h
  obtain ⟨A', a1, a2, a3⟩ := rdtX (N := N) hN h1.2.2.2.1 h2 h3
  exact ⟨A', a1, h1.st a2 IsA.rf, h2, a3, h4⟩
/-- a kind -/
theorem kind_st {N : Nat} (hN : 2000 ≤ N) {Mx Mm A B : Mem} {G : Gr} {z : Int32} {ls : Nat → Int64} {tp : Nat → Int32} {T pos : Nat} (h : ItS Mx Mm A B G z ls tp T pos) : ∃ A' r, f_X6_readKind N A = some (r, A') ∧ f_X8_kindRead N B = some r ∧ ItT Mx Mm A' B G z ls tp T pos ∧ (r = -1 ∨ ∃ kd, kd < 5 ∧ r = nI kd ∧ tqK tp T pos = 1) := by
  obtain ⟨A', a1, hT⟩ := tok_st (N := N) hN h
  obtain ⟨h1, h2, h3, h4⟩ := id hT
  unfold f_X6_readKind f_X8_kindRead
  rw [a1, bd_s]
  obtain ⟨b4, p4, q4, k4⟩ := wd_rr (N := N) (w := 4) (x1 := 112) (x2 := 108) (x3 := 97) (x4 := 105) (x5 := 110) (x6 := 0) hN (by omega) h1.2.2.2.1 h2 h3 h1.2.2.2.2.1 h4 (by decide) (by decide) (by decide) (by decide) (by decide) (by decide) (by decide)
  obtain ⟨b5, p5, q5, k5⟩ := wd_rr (N := N) (w := 5) (x1 := 119) (x2 := 105) (x3 := 100) (x4 := 101) (x5 := 0) (x6 := 0) hN (by omega) h1.2.2.2.1 h2 h3 h1.2.2.2.2.1 h4 (by decide) (by decide) (by decide) (by decide) (by decide) (by decide) (by decide)
  obtain ⟨b6, p6, q6, k6⟩ := wd_rr (N := N) (w := 6) (x1 := 116) (x2 := 104) (x3 := 105) (x4 := 110) (x5 := 0) (x6 := 0) hN (by omega) h1.2.2.2.1 h2 h3 h1.2.2.2.2.1 h4 (by decide) (by decide) (by decide) (by decide) (by decide) (by decide) (by decide)
  obtain ⟨b7, p7, q7, k7⟩ := wd_rr (N := N) (w := 7) (x1 := 115) (x2 := 112) (x3 := 97) (x4 := 110) (x5 := 0) (x6 := 0) hN (by omega) h1.2.2.2.1 h2 h3 h1.2.2.2.2.1 h4 (by decide) (by decide) (by decide) (by decide) (by decide) (by decide) (by decide)
  obtain ⟨b8, p8, q8, k8⟩ := wd_rr (N := N) (w := 8) (x1 := 101) (x2 := 118) (x3 := 101) (x4 := 110) (x5 := 0) (x6 := 0) hN (by omega) h1.2.2.2.1 h2 h3 h1.2.2.2.2.1 h4 (by decide) (by decide) (by decide) (by decide) (by decide) (by decide) (by decide)
  rw [p4, p5, p6, p7, p8, q4, q5, q6, q7, q8]
  simp only [bd_s]
  have f0 : bB false = 0 := rfl
  have f1 : ¬ bB true = 0 := by decide
  cases b4
  · simp only [if_pos f0]
    cases b5
    · simp only [if_pos f0]
      cases b6
      · simp only [if_pos f0]
        cases b7
        · simp only [if_pos f0]
          cases b8
          · simp only [if_pos f0]; exact ⟨A', _, rfl, rfl, hT, Or.inl rfl⟩
          · simp only [if_neg f1]; exact ⟨A', _, rfl, rfl, hT, Or.inr ⟨4, by omega, rfl, k8 rfl⟩⟩
        · simp only [if_neg f1]; exact ⟨A', _, rfl, rfl, hT, Or.inr ⟨3, by omega, rfl, k7 rfl⟩⟩
      · simp only [if_neg f1]; exact ⟨A', _, rfl, rfl, hT, Or.inr ⟨2, by omega, rfl, k6 rfl⟩⟩
    · simp only [if_neg f1]; exact ⟨A', _, rfl, rfl, hT, Or.inr ⟨1, by omega, rfl, k5 rfl⟩⟩
  · simp only [if_neg f1]; exact ⟨A', _, rfl, rfl, hT, Or.inr ⟨0, by omega, rfl, k4 rfl⟩⟩
theorem hiP {n : Nat} (h : n ≤ 6) : (nI n - 1).toInt ≤ 39 := by
  have : (nI n - 1).toInt = (n : Int) - 1 := pk_sub_toInt (b := 1) (by omega) (by decide)
  omega
/-- points come -/
theorem pts_it {N : Nat} (hN : 2000 ≤ N) {Mx Mm A B : Mem} {G : Gr} {z : Int32} {ls : Nat → Int64} {tp : Nat → Int32} {T pos : Nat} (h : ItT Mx Mm A B G z ls tp T pos) (hk : tqK tp T pos = 1) : ItR Mx Mm z tp T pos (f_X6_readsPoints N 13 A) (bd (f_X8_goes N B) (fun M28 => bd (f_X8_isRead N (0 : Int32) (1 : Int32) ((6 : Int32) - (M28.1 0 0)) M28) (fun w31 => if w31.1 = 0 then (some ((0 : Int32), w31.2)) else (ck (inb (0 : Int32) 4) (bd (f_X8_pointsCome N (w31.2.1 19 (0 : Int32).toNatClampNeg) w31.2) (fun M33 => some ((1 : Int32), M33))))))) := by
  obtain ⟨C, c1, c2, c3, -⟩ := go_st (N := N) hN h (by omega) (by omega)
  obtain ⟨hG, hX, hM, -⟩ := id c2.1
  have hP := hG.1
  unfold f_X6_readsPoints
  have e6 : (6 : Int32) - nI (gP G) = nI (6 - gP G) := pk_sub (a := 6) hP
  rw [c1, bd_s, hX.1, hM.1, e6]
  rcases num_st (N := N) hN c2 (kk := 0) (by omega) (lo := 1) (hi := nI (6 - gP G)) (by rw [nI_toInt (by omega)]; omega) with ⟨A', q1, q2, q3⟩ | ⟨v, A', B', e, l1, l2, l3, q1, q2, q3, q4, q5, q6, q7, -, -⟩
  · have q2' : f_X8_isRead N 0 1 (nI (6 - gP G)) C = some (0, C) := q2
    rw [q1, q2', bd_s, bd_s]
    dsimp only
    rw [if_pos rfl, if_pos rfl]
    exact Or.inl ⟨A', C, rfl, rfl, q3⟩
  · have q2' : f_X8_isRead N 0 1 (nI (6 - gP G)) C = some (1, B') := q2
    have hv1 : 1 ≤ v := (nI_leI (a := 1) (by decide) (by omega)).mp l1
    have hv2 : v ≤ 6 - gP G := (nI_leI (by omega) (by omega)).mp l2
    have vn : ¬ nI v = -1 := fun q => by have := congrArg Int32.toInt q; rw [nI_toInt (by omega)] at this; have e1 : (-1 : Int32).toInt = -1 := rfl; omega
    obtain ⟨h1, h2, h3, h4⟩ := q3
    have z0 : (0 : Int32).toNatClampNeg = 0 := by decide
    rw [q1, q2', bd_s, bd_s]
    dsimp only
    rw [if_neg vn, if_neg (show ¬ (1 : Int32) = 0 by decide), ck_t (by decide), z0, q6, addP_X hN h1.2.1.1 (by omega), addP_M hN h1.2.2.1.1 (by omega), bd_s, bd_s]
    obtain ⟨g1, g2, g3, g4, g5, g6⟩ := h1
    obtain ⟨f1, f2, f3, f4, f5⟩ := g6
    have w1 : ∀ a, a ≠ 13 → (segJ (setI A' 13 0 (nI (gP G + v))) (13 + 5) (gP G) v allP).1 a = A'.1 a := fun a ha => setI_o ha
    have w2 : ∀ a, a ≠ 18 → (segJ (setI A' 13 0 (nI (gP G + v))) (13 + 5) (gP G) v allP).2 a = A'.2 a := fun a ha => by funext b; show (if _ then _ else _) = _; rw [if_neg (by omega)]; rfl
    have m1 : ∀ a, a ≠ 0 → (segJ (setI B' 0 0 (nI (gP G + v))) 5 (gP G) v allP).1 a = B'.1 a := fun a ha => setI_o ha
    have m0 : ∀ j, j ≠ 0 → (segJ (setI B' 0 0 (nI (gP G + v))) 5 (gP G) v allP).1 0 j = B'.1 0 j := fun j hj => by show (setI B' 0 0 _).1 0 j = _; rw [setI_1, if_pos rfl, if_neg hj]
    have m2 : ∀ a, a ≠ 5 → (segJ (setI B' 0 0 (nI (gP G + v))) 5 (gP G) v allP).2 a = B'.2 a := fun a ha => by funext b; show (if _ then _ else _) = _; rw [if_neg (by omega)]; rfl
    refine Or.inr ⟨_, _, (gP G + v, G.2), _, e, rfl, rfl, ⟨⟨g1.addP (by omega), g2.addP, g3.addP, ⟨g4.1, by rw [w1 31 (by omega)]; exact g4.2.1, fun j hj => by rw [w1 32 (by omega)]; exact g4.2.2 j hj⟩, ⟨g5.1, by rw [m0 31 (by omega)]; exact g5.2.1, fun j hj => by rw [m1 18 (by omega)]; exact g5.2.2 j hj⟩, fun a a1 a2 => by rw [w1 a (by omega)]; exact f1 a a1 a2, fun a a1 => by rw [w2 a (by omega)]; exact f2 a a1, fun a a1 a2 => by rw [m1 a (by omega)]; exact f3 a a1 a2, fun a a1 => by rw [m2 a (by omega)]; exact f4 a a1, fun j j1 j2 => by rw [m0 j (by omega)]; exact f5 j j1 j2⟩, h2, by rw [w1 31 (by omega)]; exact h3, ?_⟩, by omega⟩
    unfold RqM at *
    rw [m0 34 (by omega), m0 32 (by omega), m0 33 (by omega), m0 35 (by omega)]
    exact h4
/-- a list becomes a stretch of places -/
theorem list_it {N : Nat} (hN : 2000 ≤ N) {Mx Mm A B : Mem} {G : Gr} {z : Int32} {ls : Nat → Int64} {tp : Nat → Int32} {T pos : Nat} (h : ItT Mx Mm A B G z ls tp T pos) (hk : tqK tp T pos = 1) : ItR Mx Mm z tp T pos (f_X6_readsList N 13 A) (bd (f_X8_goes N B) (fun M10 => bd (f_X8_isRead N (0 : Int32) (0 : Int32) ((M10.1 0 0) - (1 : Int32)) M10) (fun w13 => if w13.1 = 0 then (some ((0 : Int32), w13.2)) else (bd (f_X8_isRead N (1 : Int32) (0 : Int32) (39 : Int32) w13.2) (fun w16 => if w16.1 = 0 then (some ((0 : Int32), w16.2)) else (ck (inb (1 : Int32) 4) (bd (f_X8_isRead N (2 : Int32) (w16.2.1 19 (1 : Int32).toNatClampNeg) (39 : Int32) w16.2) (fun w19 => if w19.1 = 0 then (some ((0 : Int32), w19.2)) else (ck (inb (0 : Int32) 4) (ck (inb (2 : Int32) 4) (ck (inb (1 : Int32) 4) (ck (inb (w19.2.1 19 (0 : Int32).toNatClampNeg) 6) (nm (setJ w19.2 5 (w19.2.1 19 (0 : Int32).toNatClampNeg).toNatClampNeg (((1 : Int64) <<< (((w19.2.1 19 (2 : Int32).toNatClampNeg) + (1 : Int32)).toInt64 &&& 63)) - ((1 : Int64) <<< ((w19.2.1 19 (1 : Int32).toNatClampNeg).toInt64 &&& 63)))) (fun M20 => some ((1 : Int32), M20))))))))))))))) := by
  obtain ⟨C, c1, c2, c3, -⟩ := go_st (N := N) hN h (by omega) (by omega)
  obtain ⟨hG, hX, hM, -⟩ := id c2.1
  have hP := hG.1
  have z0 : (0 : Int32).toNatClampNeg = 0 := by decide
  have z1 : (1 : Int32).toNatClampNeg = 1 := by decide
  have z2 : (2 : Int32).toNatClampNeg = 2 := by decide
  have vn : ∀ v, v ≤ 39 → ¬ nI v = -1 := fun v hv q => by have := congrArg Int32.toInt q; rw [nI_toInt (by omega)] at this; have e1 : (-1 : Int32).toInt = -1 := rfl; omega
  have f1 : ¬ (1 : Int32) = 0 := by decide
  unfold f_X6_readsList
  simp only [jn_e]
  rw [c1, bd_s, hX.1, hM.1]
  rcases num_st (N := N) hN c2 (kk := 0) (by omega) (lo := 0) (hi := nI (gP G) - 1) (hiP hP) with ⟨A1, q1, q2, q3⟩ | ⟨v, A1, B1, e1, l1, l2, l3, q1, q2, q3, q4, -, q6, q7, -, -⟩
  · have q2' : f_X8_isRead N 0 0 (nI (gP G) - 1) C = some (0, C) := q2
    rw [q1, q2', bd_s, bd_s]
    dsimp only
    exact Or.inl ⟨A1, C, by simp, by simp, q3⟩
  have q2' : f_X8_isRead N 0 0 (nI (gP G) - 1) C = some (1, B1) := q2
  have hvP : v < gP G := by
    have := (lt_pred (by omega) _).mp l2
    exact (nI_ltI (by omega) (by omega)).mp this
  rw [q1, q2', bd_s, bd_s]
  dsimp only
  rw [if_neg (vn v l3), if_neg f1]
  rcases num_st (N := N) hN q3 (kk := 1) (by omega) (lo := 0) (hi := 39) (by decide) with ⟨A2, r1, r2, r3⟩ | ⟨f, A2, B2, e2, k1, k2, k3, r1, r2, r3, r4, -, r6, r7, -, -⟩
  · have r2' : f_X8_isRead N 1 0 39 B1 = some (0, B1) := r2
    rw [r1, r2', bd_s, bd_s]
    dsimp only
    exact Or.inl ⟨A2, B1, by simp, by simp, r3⟩
  have r2' : f_X8_isRead N 1 0 39 B1 = some (1, B2) := r2
  rw [r1, r2', bd_s, bd_s]
  dsimp only
  rw [if_neg (vn f k3), if_neg f1]
  simp only [ck_t (show inb (1 : Int32) 4 by decide), z1, r6]
  rcases num_st (N := N) hN r3 (kk := 2) (by omega) (lo := nI f) (hi := 39) (by decide) with ⟨A3, s1, s2, s3⟩ | ⟨t, A3, B3, e3, m1, m2, m3, s1, s2, s3, s4, -, s6, s7, -, -⟩
  · have s2' : f_X8_isRead N 2 (nI f) 39 B2 = some (0, B2) := s2
    rw [s1, s2', bd_s, bd_s]
    dsimp only
    exact Or.inl ⟨A3, B2, by simp, by simp, s3⟩
  have s2' : f_X8_isRead N 2 (nI f) 39 B2 = some (1, B3) := s2
  have hft : f ≤ t := (nI_leI (by omega) (by omega)).mp m1
  have x0 : B3.1 19 0 = nI v := by rw [s7 0 (by omega), r7 0 (by omega)]; exact q6
  have x1 : B3.1 19 1 = nI f := by rw [s7 1 (by omega)]; exact r6
  rw [s1, s2', bd_s, bd_s]
  dsimp only
  have v6 : inb (nI v) 6 := inb_nI (by omega) (by decide)
  have cv : (nI v).toNatClampNeg = v := nI_clamp (by omega)
  rw [if_neg (vn t m3), if_neg f1]
  simp only [ck_t v6, ck_t (show inb (0 : Int32) 4 by decide), ck_t (show inb (1 : Int32) 4 by decide), ck_t (show inb (2 : Int32) 4 by decide), z0, z1, z2, x0, x1, s6, cv, nm_e1, pk_sub hft, nI_1]
  have hp1 : 0 < 2 ^ (t - f + 1) := Nat.two_pow_pos _
  have hpf : 0 < 2 ^ f := Nat.two_pow_pos _
  have ht1 : 2 ^ (t + 1) = 2 ^ (t - f + 1) * 2 ^ f := by rw [← Nat.pow_add]; congr 1; omega
  have o : ∀ k, k < 64 → (1 : Int64) <<< ((nI k).toInt64 &&& 63) = lN (2 ^ k) := fun k hk => by
    have := wb_shl 1 (k := k) hk
    rw [Nat.one_mul] at this
    exact this
  have eL : ((1 : Int64) <<< ((nI (t - f + 1)).toInt64 &&& 63) - 1) <<< ((nI f).toInt64 &&& 63) = lN (2 ^ (t + 1) - 2 ^ f) := by
    have e1' : lN (2 ^ (t - f + 1)) - 1 = lN (2 ^ (t - f + 1) - 1) := lN_sub (b := 1) hp1
    rw [o _ (by omega), e1', wb_shl _ (by omega), Nat.sub_mul, Nat.one_mul, ht1]
  have eR : (1 : Int64) <<< ((nI (t + 1)).toInt64 &&& 63) - (1 : Int64) <<< ((nI f).toInt64 &&& 63) = lN (2 ^ (t + 1) - 2 ^ f) := by
    rw [o _ (by omega), o _ (by omega), lN_sub (by rw [ht1]; exact Nat.le_mul_of_pos_left _ hp1)]
  rw [eL, eR]
  obtain ⟨h1, h2, h3, h4⟩ := s3
  obtain ⟨g1, g2, g3, g4, g5, g6⟩ := h1
  obtain ⟨f1', f2, f3, f4, f5⟩ := g6
  refine Or.inr ⟨_, _, G, (fun i => if i = v then lN (2 ^ (t + 1) - 2 ^ f) else ls i), e3, rfl, rfl, ⟨⟨g1, ?_, ?_, ⟨g4.1, g4.2.1, g4.2.2⟩, ⟨g5.1, g5.2.1, g5.2.2⟩, f1', fun a a1 => by rw [setJ_o (by omega)]; exact f2 a a1, f3, fun a a1 => by rw [setJ_o (by omega)]; exact f4 a a1, f5⟩, h2, h3, h4⟩, by omega⟩
  · obtain ⟨y1, y2, y3, y4, y5⟩ := g2
    refine ⟨y1, y2, y3, y4, fun i hi => ?_⟩
    show (setJ A3 18 v _).2 18 i = (if i = v then _ else ls i)
    rw [setJ_2, if_pos rfl]
    by_cases e : i = v
    · rw [if_pos e, if_pos e]
    · rw [if_neg e, if_neg e]; exact y5 i hi
  · obtain ⟨y1, y2, y3, y4, y5⟩ := g3
    refine ⟨y1, y2, y3, y4, fun i hi => ?_⟩
    show (setJ B3 5 v _).2 5 i = (if i = v then _ else ls i)
    rw [setJ_2, if_pos rfl]
    by_cases e : i = v
    · rw [if_pos e, if_pos e]
    · rw [if_neg e, if_neg e]; exact y5 i hi
