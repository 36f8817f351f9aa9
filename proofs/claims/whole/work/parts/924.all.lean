/-! all items of a text -/
/-- both sides at once; the right one may be through before the left one -/
theorem rr_S3 {α α' β β' : Type} {b : (α → Option β) → α → Option β} {b' : (α' → Option β') → α' → Option β'} {S : Option β → Option β' → Prop} (J : Nat → α → α' → Prop) (K : Nat → α → Option β' → Prop) (hk : ∀ (n : Nat) (a : α) (o : Option β') (rc : α → Option β), K n a o → S (b rc a) o ∨ ∃ m c, m < n ∧ K m c o ∧ b rc a = rc c) (hs : ∀ (n : Nat) (a : α) (a' : α') (rc : α → Option β) (rc' : α' → Option β'), J n a a' → S (b rc a) (b' rc' a') ∨ (∃ m c c', m < n ∧ J m c c' ∧ b rc a = rc c ∧ b' rc' a' = rc' c') ∨ ∃ m c, m < n ∧ K m c (b' rc' a') ∧ b rc a = rc c) : ∀ (N n : Nat) (a : α) (a' : α'), J n a a' → n < N → S (lp b N a) (lp b' N a') := by
  intro N
  induction N with
  | zero => intro n a a' _ h; omega
  | succ N ih =>
    intro n a a' hJ hn
    rcases hs n a a' (lp b N) (lp b' N) hJ with h | ⟨m, c, c', h1, h2, h3, h4⟩ | ⟨m, c, h1, h2, h3⟩
    · exact h
    · show S (b (lp b N) a) (b' (lp b' N) a')
      rw [h3, h4]; exact ih m c c' h2 (by omega)
    · show S (b (lp b N) a) (b' (lp b' N) a')
      rw [h3]
      exact lp_S (S := fun o => S o (b' (lp b' N) a')) (fun k q => K k q (b' (lp b' N) a')) (fun k q rc hq => hk k q _ rc hq) N m c h2 (by omega)
def AllR (Mx Mm : Mem) (z : Int32) (o o' : Option (Int32 × Mem)) : Prop := (∃ A B s, o = some (-100 - nI s, A) ∧ o' = some (-1, B) ∧ s ≤ 120 ∧ B.1 0 32 = nI s ∧ Ifr Mx Mm A B) ∨ (∃ A B G ls k, o = some (nI k, A) ∧ o' = some (nI k, B) ∧ k ≤ 121 ∧ GrOk G ∧ NetX A 13 G z ls ∧ NetM B G z ls ∧ Ifr Mx Mm A B)
theorem all_it {N : Nat} (hN : 2000 ≤ N) {Mx Mm A B : Mem} {G : Gr} {z : Int32} {ls : Nat → Int64} {tp : Nat → Int32} {T : Nat} (h : ItN Mx Mm A B G z ls tp T) : AllR Mx Mm z (f_X6_readAll N 13 A) (f_X8_itemsRead N B) := by
  unfold f_X6_readAll f_X8_itemsRead
  have z0 : nI 0 = 0 := rfl
  have hA : RdA A (setI A 31 4 0) := ⟨fun a ha => setI_o ha, by simp [setI_1], rfl⟩
  have hB : GsA B (setI B 0 33 0) := GsA.set (by omega)
  have hB3 : (setI B 0 33 0).1 0 33 = nI 0 := by simp [setI_1]; rfl
  obtain ⟨C, c1, c2, c3⟩ := goM (N := N) hN (hB.tp h.2.2.2.2.1) (Nat.zero_le T) hB3
  rw [nm_e1, nm_e1, c1, bd_s]
  have hS : ItS Mx Mm (setI A 31 4 0) C G z ls tp T 0 := ⟨h.st hA (hB.tr c2).is, Nat.zero_le _, by simp [setI_1]; rfl, c3⟩
  have hT := h.2.2.2.1.1
  have f1 : ¬ (1 : Int32) = 0 := by decide
  refine rr_S3 (S := AllR Mx Mm z) (fun n (q : Int32 × Int32 × Int32 × Mem) (q' : Int32 × Mem) => ∃ g pos A B G ls, pos + n = T + 1 ∧ g ≤ pos ∧ q = (nI g, 1, nI g, A) ∧ q' = (nI g, B) ∧ ItS Mx Mm A B G z ls tp T pos) (fun n (q : Int32 × Int32 × Int32 × Mem) (o' : Option (Int32 × Mem)) => ∃ g A B G ls pos, g ≤ 121 ∧ q = (nI g, 0, nI g, A) ∧ ItT Mx Mm A B G z ls tp T pos ∧ o' = if tqK tp T pos = 0 then some (nI g, B) else some (-1, B)) (fun n q o' rc hK => ?_) (fun n q q' rc rc' hJ => ?_) N (T + 1) _ _ ⟨0, 0, _, C, G, ls, by omega, by omega, rfl, rfl, hS⟩ (by omega)
  · left
    obtain ⟨g, A, B, G, ls, pos, g1, rfl, g2, rfl⟩ := hK
    dsimp only
    rw [jn_e, if_pos rfl]
    obtain ⟨h1, h2, h3, h4⟩ := id g2
    obtain ⟨b1, b2, b3, b4, b5, b6⟩ := tq_bd (tp := tp) h2
    rw [h3.1, h3.2.1]
    by_cases c : tqK tp T pos = 0
    · rw [if_pos (by rw [c]; rfl), if_pos c]
      exact Or.inr ⟨A, B, G, ls, g, rfl, rfl, g1, h1.1, h1.2.1, h1.2.2.1, h1.2.2.2.2.2⟩
    · have : ¬ nI (tqK tp T pos) = 0 := nI_ne (b := 0) (by omega) (by decide) c
      rw [if_neg this, if_neg c]
      exact Or.inl ⟨A, B, _, rfl, rfl, by omega, h4.2.1, h1.2.2.2.2.2⟩
  · obtain ⟨g, pos, A, B, G, ls, g1, g2, rfl, rfl, g3⟩ := hJ
    have hpT := g3.2.1
    obtain ⟨A1, a1, a2⟩ := tok_st (N := N) hN g3
    dsimp only
    rw [jn_e, if_neg f1, if_neg (show ¬ (120 : Int32) < nI g from nI_nlt (a := 120) (by omega) (by decide)), a1, bd_s]
    rcases item_it (N := N) hN a2 with ⟨A2, B2, q1, q2, q3, s, s1, s2, s3⟩ | ⟨A2, B2, G2, ls2, e, q1, q2, q3, q4⟩
    · left
      rw [q1, q2, bd_s, bd_s]
      dsimp only
      rw [if_pos rfl, if_pos rfl, s2]
      exact Or.inl ⟨A2, B2, s, rfl, rfl, s1, s3, q3⟩
    · right
      rw [q1, q2, bd_s, bd_s]
      dsimp only
      rw [if_neg f1, if_neg f1, nm_e1, nm_e1]
      obtain ⟨A3, d1, d2⟩ := tok_st (N := N) hN q3
      simp only [d1, bd_s, jn_e, nm_e1, nI_1, d2.2.2.1.1, d2.2.2.2.1]
      have b5 := (tq_bd (tp := tp) q3.2.1).2.2.2.2.1
      by_cases c : tqK tp T e = 3
      · left
        obtain ⟨B3, e1, e2, e3, -⟩ := go_st (N := N) hN d2 (by omega) (by omega)
        have heT := e2.2.1
        rw [c, if_pos (show nI 3 = (3 : Int32) from rfl), if_neg (show ¬ nI 3 = (0 : Int32) by decide), e1, bd_s, if_pos (show nI 3 = (3 : Int32) from rfl)]
        exact ⟨T + 1 - tqE tp T e, _, _, by omega, ⟨g + 1, tqE tp T e, A3, B3, G2, ls2, by omega, by omega, rfl, rfl, e2⟩, rfl, rfl⟩
      · right
        have heT := q3.2.1
        have n3 : ¬ nI (tqK tp T e) = 3 := nI_ne (b := 3) (by omega) (by decide) c
        rw [if_neg n3, if_neg n3]
        refine ⟨0, _, by omega, ⟨g + 1, A3, B2, G2, ls2, e, by omega, rfl, d2, ?_⟩, rfl⟩
        by_cases c0 : tqK tp T e = 0
        · rw [if_pos (by rw [c0]; rfl), if_pos c0]
        · rw [if_neg (show ¬ nI (tqK tp T e) = 0 from nI_ne (b := 0) (by omega) (by decide) c0), if_neg c0]
