/-! lines and rounds of a text -/
theorem vnI : ∀ v, v ≤ 39 → ¬ nI v = -1 := fun v hv q => by have := congrArg Int32.toInt q; rw [nI_toInt (by omega)] at this; have e1 : (-1 : Int32).toInt = -1 := rfl; omega
theorem pre_it {N : Nat} (hN : 2000 ≤ N) {Mx Mm A B : Mem} {G : Gr} {z : Int32} {ls : Nat → Int64} {tp : Nat → Int32} {T pos : Nat} (h : ItT Mx Mm A B G z ls tp T pos) (hk : tqK tp T pos = 1) {KX : Int32 × Mem → Int32 × Mem → Int32 × Mem → Option (Int32 × Mem)} {KM : Int32 × Mem → Option (Int32 × Mem)} (hX : ∀ w a M, KX w a (-1, M) = some (0, M)) (hs : ∀ k f a A1 A2 A' B' e, ItS Mx Mm A' B' G z ls tp T e → pos < e → k < 5 → 1 ≤ f → f ≤ 3 → a < gP G → B'.1 19 0 = nI k → B'.1 19 1 = nI f → B'.1 19 2 = nI a → ItR Mx Mm z tp T pos (KX (nI k, A1) (nI f, A2) (nI a, A')) (KM (1, B'))) : ItR Mx Mm z tp T pos (bd (f_X6_readKind N A) (fun w3 => jn (fun (a20 : Int32 × Mem) => jn (fun (a41 : Int32 × Mem) => KX w3 a20 a41) (fun (k41 : (Int32 × Mem) → Option (Int32 × Mem)) => if a20.1 = (-1 : Int32) then (k41 ((-1 : Int32), a20.2)) else (bd (f_X6_readNumber N (0 : Int32) ((a20.2.1 13 0) - (1 : Int32)) a20.2) (fun w13 => k41 (w13.1, w13.2))))) (fun (k20 : (Int32 × Mem) → Option (Int32 × Mem)) => if w3.1 = (-1 : Int32) then (k20 ((-1 : Int32), w3.2)) else (bd (f_X6_readNumber N (1 : Int32) (3 : Int32) w3.2) (fun w16 => k20 (w16.1, w16.2)))))) (bd (f_X8_goes N B) (fun M2 => bd (f_X8_kindRead N M2) (fun v3 => ck (inb (0 : Int32) 4) (nm (setI M2 19 (0 : Int32).toNatClampNeg v3) (fun M5 => ck (inb (0 : Int32) 4) (if (M5.1 19 (0 : Int32).toNatClampNeg) = (-1 : Int32) then (some ((0 : Int32), M5)) else (bd (f_X8_goes N M5) (fun M7 => bd (f_X8_isRead N (1 : Int32) (1 : Int32) (3 : Int32) M7) (fun w10 => if w10.1 = 0 then (some ((0 : Int32), w10.2)) else (bd (f_X8_isRead N (2 : Int32) (0 : Int32) ((w10.2.1 0 0) - (1 : Int32)) w10.2) (fun w13 => if w13.1 = 0 then (some ((0 : Int32), w13.2)) else KM w13))))))))))) := by
  obtain ⟨C, c1, c2, c3, -⟩ := go_st (N := N) hN h (by omega) (by omega)
  obtain ⟨A1, r, a1, a2, a3, a4⟩ := kind_st (N := N) hN c2
  have z0 : (0 : Int32).toNatClampNeg = 0 := by decide
  have f1 : ¬ (1 : Int32) = 0 := by decide
  have i04 : inb (0 : Int32) 4 := by decide
  simp only [jn_e, c1, bd_s, a1, a2, ck_t i04, z0, nm_e1]
  have hC : ∀ v, IsA C (setI C 19 0 v) := fun v => ⟨fun a _ h => setI_o h, fun j _ => by rw [setI_o (by omega)], rfl⟩
  have hC0 : ∀ v, (setI C 19 0 v).1 19 0 = v := fun v => by simp [setI_1]
  have hT : ItT Mx Mm A1 (setI C 19 0 r) G z ls tp T (tqE tp T pos) := by
    obtain ⟨h1, h2, h3, h4⟩ := a3
    exact ⟨h1.st ⟨fun _ _ => rfl, rfl, rfl⟩ (hC r), h2, h3, h4⟩
  rw [hC0]
  rcases a4 with rfl | ⟨kd, k5, rfl, k1⟩
  · exact Or.inl ⟨A1, _, by simp [hX], by simp, flt_T hT⟩
  obtain ⟨D, d1, d2, d3, d4⟩ := go_st (N := N) hN hT (by omega) (by omega)
  have x0 : D.1 19 0 = nI kd := by rw [d4]; exact hC0 _
  obtain ⟨hG, hX', hM, -⟩ := id d2.1
  have hP := hG.1
  rw [if_neg (vnI kd (by omega)), if_neg (vnI kd (by omega)), d1, bd_s]
  rcases num_st (N := N) hN d2 (kk := 1) (by omega) (lo := 1) (hi := 3) (by decide) with ⟨A2, r1, r2, r3⟩ | ⟨f, A2, B2, e2, k1', k2, k3, r1, r2, r3, r4, -, r6, r7, -, -⟩
  · have r2' : f_X8_isRead N 1 1 3 D = some (0, D) := r2
    rw [r1, r2', bd_s, bd_s]
    exact Or.inl ⟨A2, D, by simp [hX], by simp, r3⟩
  have r2' : f_X8_isRead N 1 1 3 D = some (1, B2) := r2
  have hf1 : 1 ≤ f := (nI_leI (a := 1) (by decide) (by omega)).mp k1'
  have hf3 : f ≤ 3 := (nI_leI (b := 3) (by omega) (by decide)).mp k2
  obtain ⟨-, hX2, hM2, -⟩ := id r3.1
  rw [r1, r2', bd_s, bd_s]
  dsimp only
  rw [if_neg (vnI f k3), if_neg f1, hX2.1, hM2.1]
  rcases num_st (N := N) hN r3 (kk := 2) (by omega) (lo := 0) (hi := nI (gP G) - 1) (hiP hP) with ⟨A3, s1, s2, s3⟩ | ⟨v, A3, B3, e3, m1, m2, m3, s1, s2, s3, s4, -, s6, s7, -, -⟩
  · have s2' : f_X8_isRead N 2 0 (nI (gP G) - 1) B2 = some (0, B2) := s2
    rw [s1, s2', bd_s, bd_s]
    exact Or.inl ⟨A3, B2, by simp [hX], by simp, s3⟩
  have s2' : f_X8_isRead N 2 0 (nI (gP G) - 1) B2 = some (1, B3) := s2
  have hvP : v < gP G := by
    have := (lt_pred (by omega) _).mp m2
    exact (nI_ltI (by omega) (by omega)).mp this
  rw [s1, s2', bd_s, bd_s]
  dsimp only
  rw [if_neg f1]
  exact hs kd f v _ _ _ _ _ s3 (by omega) k5 hf1 hf3 hvP (by rw [s7 0 (by omega), r7 0 (by omega)]; exact x0) (by rw [s7 1 (by omega)]; exact r6) s6
theorem ItS.addL {Mx Mm A B : Mem} {G : Gr} {z : Int32} {ls : Nat → Int64} {tp : Nat → Int32} {T e : Nat} (h : ItS Mx Mm A B G z ls tp T e) {k f a b : Nat} (hn : gN G < 10) (hk : k < 5) (hf : 1 ≤ f ∧ f ≤ 3) (hab : a < b) (hb : b < gP G) (hj : ¬ Jnd G a b) : ItS Mx Mm (adLX A 13 (gN G) (nI k) (nI f) (nI a) (nI b)) (adLM B (gN G) (nI k) (nI f) (nI a) (nI b)) (grAdd G k f a b) z ls tp T e ∧ (adLM B (gN G) (nI k) (nI f) (nI a) (nI b)).1 19 = B.1 19 := by
  obtain ⟨⟨g1, g2, g3, g4, g5, f1, f2, f3, f4, f5⟩, h2, h3, h4⟩ := h
  have w1 : ∀ q, ¬ (13 ≤ q ∧ q ≤ 17) → (adLX A 13 (gN G) (nI k) (nI f) (nI a) (nI b)).1 q = A.1 q := fun q hq => by unfold adLX; rw [setI_o (by omega), setI_o (by omega), setI_o (by omega), setI_o (by omega), setI_o (by omega)]
  have m1 : ∀ q, 5 ≤ q → (adLM B (gN G) (nI k) (nI f) (nI a) (nI b)).1 q = B.1 q := fun q hq => by unfold adLM; rw [setI_o (by omega), setI_o (by omega), setI_o (by omega), setI_o (by omega), setI_o (by omega)]
  have m0 : ∀ j, j ≠ 1 → (adLM B (gN G) (nI k) (nI f) (nI a) (nI b)).1 0 j = B.1 0 j := fun j hj => by unfold adLM; rw [setI_1, if_pos rfl, if_neg hj, setI_o (by omega), setI_o (by omega), setI_o (by omega), setI_o (by omega)]
  refine ⟨⟨⟨g1.addL hn hk hf hab hb hj, g2.addL k f a b, g3.addL k f a b, ⟨g4.1, by rw [w1 31 (by omega)]; exact g4.2.1, fun j hj => by rw [w1 32 (by omega)]; exact g4.2.2 j hj⟩, ⟨g5.1, by rw [m0 31 (by omega)]; exact g5.2.1, fun j hj => by rw [m1 18 (by omega)]; exact g5.2.2 j hj⟩, fun a a1 a2 => by rw [w1 a (by omega)]; exact f1 a a1 a2, f2, fun a a1 a2 => by rw [m1 a (by omega)]; exact f3 a a1 a2, f4, fun j j1 j2 => by rw [m0 j (by omega)]; exact f5 j j1 j2⟩, h2, by rw [w1 31 (by omega)]; exact h3, ?_⟩, m1 19 (by omega)⟩
  unfold RqM at *
  rw [m0 34 (by omega), m0 32 (by omega), m0 33 (by omega), m0 35 (by omega)]
  exact h4
theorem mnx {a b P : Nat} (h : a ≠ b) (ha : a < P) (hb : b < P) : mn a b < mx a b ∧ mx a b < P := by
  show (if a ≤ b then a else b) < (if a < b then b else a) ∧ (if a < b then b else a) < P
  split <;> split <;> omega
/-- a line of a text -/
theorem line_it {N : Nat} (hN : 2000 ≤ N) {Mx Mm A B : Mem} {G : Gr} {z : Int32} {ls : Nat → Int64} {tp : Nat → Int32} {T pos : Nat} (h : ItT Mx Mm A B G z ls tp T pos) (hk : tqK tp T pos = 1) (hn : gN G < 10) : ItR Mx Mm z tp T pos (f_X6_readsLine N 13 A) (f_X8_ofLines N 0 B) := by
  unfold f_X6_readsLine f_X8_ofLines
  refine pre_it hN h hk (fun w a M => by simp [jn_e]) (fun k f a A1 A2 A' B' e hS he k5 hf1 hf3 haP x0 x1 x2 => ?_)
  obtain ⟨hG, hX, hM, -⟩ := id hS.1
  have hP := hG.1
  have z0 : (0 : Int32).toNatClampNeg = 0 := by decide
  have z1 : (1 : Int32).toNatClampNeg = 1 := by decide
  have z2 : (2 : Int32).toNatClampNeg = 2 := by decide
  have z3 : (3 : Int32).toNatClampNeg = 3 := by decide
  have f1 : ¬ (1 : Int32) = 0 := by decide
  have f00 : (0 : Int32) = 0 := rfl
  simp only [jn_e, ck_t (show inb (0 : Int32) 4 by decide), ck_t (show inb (1 : Int32) 4 by decide), ck_t (show inb (2 : Int32) 4 by decide), ck_t (show inb (3 : Int32) 4 by decide), z0, z1, z2, z3, nm_e1, x2, if_neg (vnI a (by omega)), hX.1, hM.1, if_true]
  have pt : ∀ x, f_X8_isPoint N x B' = some (bI (0 ≤ x ∧ x < nI (gP G))) := fun x => ptM hM.1 hP
  rcases num_st (N := N) hN hS (kk := 3) (by omega) (lo := 0) (hi := nI (gP G) - 1) (hiP hP) with ⟨A3, s1, s2, s3⟩ | ⟨v, A3, B3, e3, m1, m2, m3, s1, s2, s3, s4, s5, s6, s7, s8, s9⟩
  · have s2' : f_X8_isRead N 3 0 (nI (gP G) - 1) B' = some (0, B') := s2
    simp only [s1, s2', bd_s, if_true, pt, ite_bI]
    refine Or.inl ⟨A3, B', by simp, ?_, s3⟩
    by_cases t1 : B'.1 0 34 = 2
    · rw [if_pos t1]
      by_cases t2 : 0 ≤ B'.1 0 35 ∧ B'.1 0 35 < nI (gP G)
      · rw [if_pos t2]
        by_cases t3 : B'.1 0 35 = nI a
        · rw [if_pos t3]
        · rw [if_neg t3]
          obtain ⟨j, hj, ej⟩ := nI_of_lt (by omega) t2
          rw [ej] at t3
          obtain ⟨r, r1, -⟩ := btM (N := N) hN hG hM (a := a) (b := j) (by omega) (by omega) (fun q => t3 (by rw [q]))
          rw [ej, r1, bd_s]
          split <;> rfl
      · rw [if_neg t2]
    · rw [if_neg t1]
  have s2' : f_X8_isRead N 3 0 (nI (gP G) - 1) B' = some (1, B3) := s2
  have hvP : v < gP G := by
    have := (lt_pred (by omega) _).mp m2
    exact (nI_ltI (by omega) (by omega)).mp this
  obtain ⟨-, hX3, hM3, -⟩ := id s3.1
  simp only [s1, s2', bd_s, if_neg f1, s8, s9, pt, ite_bI, if_neg (vnI v m3), if_true]
  rw [if_pos (show 0 ≤ nI v ∧ nI v < nI (gP G) from ⟨m1, (nI_ltI (by omega) (by omega)).mpr hvP⟩)]
  by_cases c : a = v
  · rw [if_pos (by rw [c]), if_pos (by rw [c])]
    exact Or.inl ⟨A3, B', rfl, rfl, s5⟩
  have cn : ¬ nI a = nI v := nI_ne (by omega) (by omega) c
  rw [if_neg cn, if_neg (fun q => cn q.symm)]
  obtain ⟨r, r1, r2⟩ := btM (N := N) hN hG hM (a := a) (b := v) (by omega) (by omega) c
  rw [r1, bd_s]
  rcases r2 with ⟨r2, r3⟩ | ⟨r2, r3⟩
  · obtain ⟨mm1, mm2⟩ := mnx c haP hvP
    rw [if_pos r2, jnX_0 hN hG hX3 (by omega) (by omega) r3, bd_s, if_pos rfl, s6, s7 0 (by omega), s7 1 (by omega), x0, x1, addL_X hX3.2.1 hn (by omega) (by omega), addL_M hM3.2.1 hn (by omega) (by omega) c, bd_s, bd_s]
    exact Or.inr ⟨_, _, _, ls, e3, rfl, rfl, (s3.addL hn k5 ⟨hf1, hf3⟩ mm1 mm2 r3).1, by omega⟩
  · rw [if_neg r2, jnX_1 hN hG hX3 (by omega) (by omega) r3, bd_s, if_neg f1]
    exact Or.inl ⟨A3, B', rfl, rfl, s5⟩
/-- one join of a round -/
def JnM (N : Nat) (k f a b : Nat) (B B' : Mem) : Prop := ∃ r, f_X8_between N (nI a) (nI b) B = some r ∧ ((r ≠ -1 ∧ B' = B) ∨ (r = -1 ∧ (10 : Int32) ≤ B.1 0 1 ∧ B' = B) ∨ (r = -1 ∧ ¬ (10 : Int32) ≤ B.1 0 1 ∧ f_X8_lineComes N (nI k) (nI f) (nI a) (nI b) B = some B'))
theorem jstep {N : Nat} (hN : 2000 ≤ N) {Mx Mm A B : Mem} {G : Gr} {z : Int32} {ls : Nat → Int64} {tp : Nat → Int32} {T e : Nat} (h : ItS Mx Mm A B G z ls tp T e) {k f a b : Nat} (hk : k < 5) (hf : 1 ≤ f ∧ f ≤ 3) (ha : a < gP G) (hb : b < gP G) (hab : a ≠ b) : ∃ A' B' G', f_X6_joinUnlessJoined N 13 (nI k) (nI f) (nI a) (nI b) A = some A' ∧ ItS Mx Mm A' B' G' z ls tp T e ∧ gP G' = gP G ∧ B'.1 19 = B.1 19 ∧ JnM N k f a b B B' := by
  obtain ⟨hG, hX, hM, -⟩ := id h.1
  have hP := hG.1
  have hn := hG.2.1
  obtain ⟨r, r1, r2⟩ := btM (N := N) hN hG hM (a := a) (b := b) (by omega) (by omega) hab
  unfold f_X6_joinUnlessJoined
  rcases r2 with ⟨r2, r3⟩ | ⟨r2, r3⟩
  · rw [jnX_0 hN hG hX (by omega) (by omega) r3, bd_s, if_pos rfl]
    by_cases c : gN G < 10
    · obtain ⟨mm1, mm2⟩ := mnx hab ha hb
      obtain ⟨p1, p2⟩ := h.addL c hk hf mm1 mm2 r3
      rw [addL_X hX.2.1 c (by omega) (by omega), bd_s]
      refine ⟨_, _, _, rfl, p1, rfl, p2, r, r1, Or.inr (Or.inr ⟨r2, ?_, addL_M hM.2.1 c (by omega) (by omega) hab⟩)⟩
      rw [hM.2.1]; exact nI_ge (b := 10) c (by decide)
    · have c10 : (10 : Int32) ≤ nI (gN G) := nI_le (a := 10) (by omega) (by omega)
      refine ⟨A, B, G, ?_, h, rfl, rfl, r, r1, Or.inr (Or.inl ⟨r2, by rw [hM.2.1]; exact c10, rfl⟩)⟩
      unfold f_X1_addLine
      rw [hX.2.1, if_pos c10, bd_s]
  · rw [jnX_1 hN hG hX (by omega) (by omega) r3, bd_s, if_neg (by decide)]
    exact ⟨A, B, G, rfl, h, rfl, rfl, r, r1, Or.inl ⟨r2, rfl⟩⟩
/-- a round of a text -/
theorem round_it {N : Nat} (hN : 2000 ≤ N) {Mx Mm A B : Mem} {G : Gr} {z : Int32} {ls : Nat → Int64} {tp : Nat → Int32} {T pos : Nat} (h : ItT Mx Mm A B G z ls tp T pos) (hk : tqK tp T pos = 1) : ItR Mx Mm z tp T pos (f_X6_readsRound N 13 A) (f_X8_ofLines N 1 B) := by
  unfold f_X6_readsRound f_X8_ofLines
  refine pre_it hN h hk (fun w a M => by simp [jn_e]) (fun k f a A1 A2 A' B' e hS he k5 hf1 hf3 haP x0 x1 x2 => ?_)
  obtain ⟨hG, hX, hM, -⟩ := id hS.1
  have hP := hG.1
  have z0 : (0 : Int32).toNatClampNeg = 0 := by decide
  have z1 : (1 : Int32).toNatClampNeg = 1 := by decide
  have z2 : (2 : Int32).toNatClampNeg = 2 := by decide
  have z3 : (3 : Int32).toNatClampNeg = 3 := by decide
  have f1 : ¬ (1 : Int32) = 0 := by decide
  have ii : ∀ {α : Type} (c : Prop) [Decidable c] (x : α), (if c then x else x) = x := fun c _ x => by split <;> rfl
  simp only [jn_e, ck_t (show inb (0 : Int32) 4 by decide), ck_t (show inb (1 : Int32) 4 by decide), ck_t (show inb (2 : Int32) 4 by decide), ck_t (show inb (3 : Int32) 4 by decide), z0, z1, z2, z3, nm_e1, x2, if_neg (vnI a (by omega)), hX.1, hM.1, if_neg f1, ii, nI_1]
  rcases num_st (N := N) hN hS (kk := 3) (by omega) (lo := nI (a + 1)) (hi := nI (gP G) - 1) (hiP hP) with ⟨A3, s1, s2, s3⟩ | ⟨v, A3, B3, e3, m1, m2, m3, s1, s2, s3, s4, s5, s6, s7, s8, s9⟩
  · have s2' : f_X8_isRead N 3 (nI (a + 1)) (nI (gP G) - 1) B' = some (0, B') := s2
    rw [s1, s2', bd_s, bd_s]
    exact Or.inl ⟨A3, B', by simp, by simp, s3⟩
  have s2' : f_X8_isRead N 3 (nI (a + 1)) (nI (gP G) - 1) B' = some (1, B3) := s2
  have hvP : v < gP G := by
    have := (lt_pred (by omega) _).mp m2
    exact (nI_ltI (by omega) (by omega)).mp this
  have hav : a + 1 ≤ v := (nI_leI (by omega) (by omega)).mp m1
  rw [s1, s2', bd_s, bd_s]
  dsimp only
  rw [if_neg (vnI v m3), if_neg f1]
  have y0 : B3.1 19 0 = nI k := by rw [s7 0 (by omega)]; exact x0
  have y1 : B3.1 19 1 = nI f := by rw [s7 1 (by omega)]; exact x1
  refine rr_S2 (S := ItR Mx Mm z tp T pos) (fun n (q : Int32 × Mem) (q' : Int32 × Mem) => ∃ p A B G', p + n = v + 2 ∧ a ≤ p ∧ p ≤ v ∧ q = (nI p, A) ∧ q' = (nI p, B) ∧ ItS Mx Mm A B G' z ls tp T e3 ∧ gP G' = gP G ∧ B.1 19 = B3.1 19) (fun n (o : Option (Int32 × Mem)) (q' : Int32 × Mem) => ∃ A' B' G', o = some (1, A') ∧ ItS Mx Mm A' B' G' z ls tp T e3 ∧ B'.1 19 = B3.1 19 ∧ ((n = 0 ∧ q' = (nI (v + 1), B')) ∨ (n = 1 ∧ ∃ B, q' = (nI v, B) ∧ B.1 19 = B3.1 19 ∧ JnM N k f a v B B'))) (fun n o q' rc hK => ?_) (fun n q q' rc rc' hJ => ?_) N (v + 2 - a) _ _ ⟨a, A3, B3, G, by omega, by omega, by omega, rfl, rfl, s3, rfl, rfl⟩ (by omega)
  · obtain ⟨A', B', G', rfl, g1, g2, g3⟩ := hK
    rcases g3 with ⟨rfl, rfl⟩ | ⟨rfl, B, rfl, g4, r, r1, r2⟩
    · left
      dsimp only
      rw [g2, s6, if_pos (nI_lt (by omega) (by omega))]
      exact Or.inr ⟨_, _, _, _, _, rfl, rfl, g1, by omega⟩
    · right
      refine ⟨0, _, by omega, ⟨A', B', G', rfl, g1, g2, Or.inl ⟨rfl, rfl⟩⟩, ?_⟩
      dsimp only
      rw [g4, s6, y0, y1, if_neg (nI_nlt (by omega) (by omega))]
      simp only [eq_self, if_true, r1, bd_s, nI_1]
      rcases r2 with ⟨r2, rfl⟩ | ⟨r2, r3, rfl⟩ | ⟨r2, r3, r4⟩
      · rw [if_neg r2]
      · rw [if_pos r2, if_pos r3]
      · rw [if_pos r2, if_neg r3, r4, bd_s]
  · obtain ⟨p, A, B, G', hp, hap, hpv, rfl, rfl, hS', hg, h19⟩ := hJ
    right
    by_cases c : p = v
    · right
      obtain ⟨A', B', G2, q1, q2, q3, q4, q5⟩ := jstep (N := N) hN hS' k5 ⟨hf1, hf3⟩ (a := a) (b := v) (by omega) (by omega) (by omega)
      refine ⟨1, by omega, A', B', G2, ?_, q2, q4.trans h19, Or.inr ⟨rfl, B, by rw [c], h19, q5⟩⟩
      dsimp only
      rw [if_pos (nI_le (by omega) (by omega)), q1, bd_s]
    · left
      obtain ⟨A', B', G2, q1, q2, q3, q4, r, r1, r2⟩ := jstep (N := N) hN hS' k5 ⟨hf1, hf3⟩ (a := p) (b := p + 1) (by omega) (by omega) (by omega)
      refine ⟨n - 1, (nI (p + 1), A'), (nI (p + 1), B'), by omega, ⟨p + 1, A', B', G2, by omega, by omega, by omega, rfl, rfl, q2, q3.trans hg, q4.trans h19⟩, ?_, ?_⟩
      · dsimp only
        rw [if_neg (nI_ge (by omega) (by omega)), nI_1, q1, bd_s]
      · dsimp only
        rw [h19, s6, y0, y1, if_neg (nI_nlt (by omega) (by omega))]
        simp only [if_neg (show ¬ nI p = nI v from nI_ne (by omega) (by omega) c), nI_1, r1, bd_s]
        rcases r2 with ⟨r2, rfl⟩ | ⟨r2, r3, rfl⟩ | ⟨r2, r3, r4⟩
        · rw [if_neg r2]
        · rw [if_pos r2, if_pos r3]
        · rw [if_pos r2, if_neg r3, r4, bd_s]
