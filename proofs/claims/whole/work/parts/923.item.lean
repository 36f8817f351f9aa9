/-! one item of a text -/
theorem ItR.wl {Mx Mm : Mem} {z : Int32} {tp : Nat → Int32} {T pos : Nat} {o o' : Option (Int32 × Mem)} (h : ItR Mx Mm z tp T pos o o') {f : Int32 × Mem → Option (Int32 × Mem)} (f0 : ∀ A, f (0, A) = some (0, A)) (f1 : ∀ A, f (1, A) = some (1, A)) : ItR Mx Mm z tp T pos (bd o f) o' := by
  rcases h with ⟨A, B, h1, h2, h3⟩ | ⟨A, B, G, ls, e', h1, h2, h3, h4⟩
  · exact Or.inl ⟨A, B, by rw [h1, bd_s, f0], h2, h3⟩
  · exact Or.inr ⟨A, B, G, ls, e', by rw [h1, bd_s, f1], h2, h3, h4⟩
theorem ItR.wr {Mx Mm : Mem} {z : Int32} {tp : Nat → Int32} {T pos : Nat} {o o' : Option (Int32 × Mem)} (h : ItR Mx Mm z tp T pos o o') {f : Int32 × Mem → Option (Int32 × Mem)} (f0 : ∀ A, f (0, A) = some (0, A)) (f1 : ∀ A, f (1, A) = some (1, A)) : ItR Mx Mm z tp T pos o (bd o' f) := by
  rcases h with ⟨A, B, h1, h2, h3⟩ | ⟨A, B, G, ls, e', h1, h2, h3, h4⟩
  · exact Or.inl ⟨A, B, h1, by rw [h2, bd_s, f0], h3⟩
  · exact Or.inr ⟨A, B, G, ls, e', h1, by rw [h2, bd_s, f1], h3, h4⟩
theorem item_it {N : Nat} (hN : 2000 ≤ N) {Mx Mm A B : Mem} {G : Gr} {z : Int32} {ls : Nat → Int64} {tp : Nat → Int32} {T pos : Nat} (h : ItT Mx Mm A B G z ls tp T pos) : ItR Mx Mm z tp T pos (f_X6_readsItem N 13 A) (f_X8_item N B) := by
  obtain ⟨h1, h2, h3, h4⟩ := id h
  have hG := h1.1
  unfold f_X6_readsItem f_X8_item
  obtain ⟨b0, p0, q0, k0⟩ := wd_rr (N := N) (w := 0) (x1 := 112) (x2 := 111) (x3 := 105) (x4 := 110) (x5 := 116) (x6 := 115) hN (by omega) h1.2.2.2.1 h2 h3 h1.2.2.2.2.1 h4 (by decide) (by decide) (by decide) (by decide) (by decide) (by decide) (by decide)
  obtain ⟨b1, p1, q1, k1⟩ := wd_rr (N := N) (w := 1) (x1 := 108) (x2 := 105) (x3 := 110) (x4 := 101) (x5 := 0) (x6 := 0) hN (by omega) h1.2.2.2.1 h2 h3 h1.2.2.2.2.1 h4 (by decide) (by decide) (by decide) (by decide) (by decide) (by decide) (by decide)
  obtain ⟨b2, p2, q2, k2⟩ := wd_rr (N := N) (w := 2) (x1 := 114) (x2 := 111) (x3 := 117) (x4 := 110) (x5 := 100) (x6 := 0) hN (by omega) h1.2.2.2.1 h2 h3 h1.2.2.2.2.1 h4 (by decide) (by decide) (by decide) (by decide) (by decide) (by decide) (by decide)
  obtain ⟨b3, p3, q3, k3⟩ := wd_rr (N := N) (w := 3) (x1 := 108) (x2 := 105) (x3 := 115) (x4 := 116) (x5 := 0) (x6 := 0) hN (by omega) h1.2.2.2.1 h2 h3 h1.2.2.2.2.1 h4 (by decide) (by decide) (by decide) (by decide) (by decide) (by decide) (by decide)
  rw [p0, p1, p2, p3, q0, q1, q2, q3]
  simp only [bd_s]
  have f0 : bB false = 0 := rfl
  have f1 : ¬ bB true = 0 := by decide
  have fl := flt_T h
  cases b0
  · rw [if_pos f0, if_pos f0]
    cases b1
    · rw [if_pos f0, if_pos f0]
      cases b2
      · rw [if_pos f0, if_pos f0]
        cases b3
        · rw [jn_e, if_pos f0, if_pos f0]
          exact Or.inl ⟨A, B, rfl, rfl, fl⟩
        · rw [jn_e, if_neg f1, if_neg f1]
          exact (list_it hN h (k3 rfl)).wl (fun A => by rw [if_pos rfl]) (fun A => by rw [if_neg (show ¬ (1 : Int32) = 0 by decide)])
      · rw [if_neg f1, if_neg f1]
        exact ((round_it hN h (k2 rfl)).wl (fun A => by rw [ck_t (Or.inl rfl)]) (fun A => by rw [ck_t (Or.inr rfl)])).wr (fun A => by rw [ck_t (Or.inl rfl)]) (fun A => by rw [ck_t (Or.inr rfl)])
    · rw [if_neg f1, if_neg f1, jn_e, jn_e, h1.2.1.2.1, h1.2.2.1.2.1]
      by_cases c : gN G < 10
      · have c10 : ¬ (10 : Int32) ≤ nI (gN G) := nI_ge (b := 10) c (by decide)
        rw [if_neg c10, if_neg c10]
        exact ((line_it hN h (k1 rfl) c).wl (fun A => by rw [if_pos rfl]) (fun A => by rw [if_neg (show ¬ (1 : Int32) = 0 by decide)])).wr (fun A => by rw [if_pos rfl]) (fun A => by rw [if_neg (show ¬ (1 : Int32) = 0 by decide)])
      · have c10 : (10 : Int32) ≤ nI (gN G) := nI_le (a := 10) (by omega) (by have := hG.2.1; omega)
        rw [if_pos c10, if_pos c10]
        exact Or.inl ⟨A, B, rfl, rfl, fl⟩
  · rw [if_neg f1, if_neg f1]
    exact (pts_it hN h (k0 rfl)).wl (fun A => by rw [ck_t (Or.inl rfl)]) (fun A => by rw [ck_t (Or.inr rfl)])
