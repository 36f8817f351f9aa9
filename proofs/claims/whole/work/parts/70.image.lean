/-! more rules of loops; the image -/
theorem nm_g {α β : Type} {P : β → Prop} {x : α} {k : α → β} (h : ∀ y, y = x → P (k y)) : P (nm x k) := h x rfl
theorem lp_S {α β : Type} {b : (α → Option β) → α → Option β} {S : Option β → Prop} (J : Nat → α → Prop) (hs : ∀ (n : Nat) (a : α) (rc : α → Option β), J n a → S (b rc a) ∨ ∃ m c, m < n ∧ J m c ∧ b rc a = rc c) : ∀ (N n : Nat) (a : α), J n a → n < N → S (lp b N a) := by
  intro N
  induction N with
  | zero => intro n a _ h; omega
  | succ N ih =>
    intro n a hJ hn
    show S (b (lp b N) a)
    rcases hs n a (lp b N) hJ with h | ⟨m, c, h1, h2, h3⟩
    · exact h
    · rw [h3]; exact ih m c h2 (by omega)
theorem rr_S {α α' β β' : Type} {b : (α → Option β) → α → Option β} {b' : (α' → Option β') → α' → Option β'} {S : Option β → Option β' → Prop} (J : Nat → α → α' → Prop) (hs : ∀ (n : Nat) (a : α) (a' : α') (rc : α → Option β) (rc' : α' → Option β'), J n a a' → S (b rc a) (b' rc' a') ∨ ∃ m c c', m < n ∧ J m c c' ∧ b rc a = rc c ∧ b' rc' a' = rc' c') : ∀ (N n : Nat) (a : α) (a' : α'), J n a a' → n < N → S (lp b N a) (lp b' N a') := by
  intro N
  induction N with
  | zero => intro n a a' _ h; omega
  | succ N ih =>
    intro n a a' hJ hn
    show S (b (lp b N) a) (b' (lp b' N) a')
    rcases hs n a a' (lp b N) (lp b' N) hJ with h | ⟨m, c, c', h1, h2, h3, h4⟩
    · exact h
    · rw [h3, h4]; exact ih m c c' h2 (by omega)
theorem cpI {M M' : Mem} {k0 k1 : Nat} (e : M' = putI M k1 (va_cpy (M.1 k0) (M.1 k1) 0 0 10)) : (∀ b, b < 10 → M'.1 k1 b = M.1 k0 b) ∧ (∀ a, a ≠ k1 → M'.1 a = M.1 a) ∧ M'.2 = M.2 := by
  subst e
  refine ⟨fun b hb => ?_, fun a ha => putI_o ha, rfl⟩
  rw [putI_1, if_pos rfl, pk_cpy_in (by omega) (by omega)]
  rw [Nat.zero_add, Nat.sub_zero]
theorem bec {N c0 c1 : Nat} {M : Mem} {G : Gr} {z : Int32} {ls : Nat → Int64} (hd : c0 + 5 < c1 ∨ c1 + 5 < c0) (hG : GrOk G) (h : NetX M c1 G z ls) : ∃ M', f_X1_become N c0 c1 M = some M' ∧ NetX M' c0 G z ls ∧ ∀ a, ¬ (c0 ≤ a ∧ a ≤ c0 + 5) → M'.1 a = M.1 a ∧ M'.2 a = M.2 a := by
  obtain ⟨hp, hn, -⟩ := hG
  obtain ⟨n1, n2, n3, n4, n5⟩ := h
  obtain ⟨P, hP⟩ : ∃ P : Option Mem → Prop, P = fun o => ∃ M', o = some M' ∧ NetX M' c0 G z ls ∧ ∀ a, ¬ (c0 ≤ a ∧ a ≤ c0 + 5) → M'.1 a = M.1 a ∧ M'.2 a = M.2 a := ⟨_, rfl⟩
  suffices q : P (f_X1_become N c0 c1 M) by rw [hP] at q; exact q
  unfold f_X1_become
  refine nm_g (P := P) (fun M1 e1 => ?_)
  refine nm_g (P := P) (fun M2 e2 => ?_)
  refine nm_g (P := P) (fun M3 e3 => ?_)
  rw [ck_t (by decide)]
  refine nm_g (P := P) (fun M4 e4 => ?_)
  rw [ck_t (by decide)]
  refine nm_g (P := P) (fun M5 e5 => ?_)
  rw [ck_t (by decide)]
  refine nm_g (P := P) (fun M6 e6 => ?_)
  rw [ck_t (by decide)]
  refine nm_g (P := P) (fun M7 e7 => ?_)
  rw [ck_t (by decide)]
  refine nm_g (P := P) (fun M8 e8 => ?_)
  obtain ⟨p4, q4, r4⟩ := cpI e4
  obtain ⟨p5, q5, r5⟩ := cpI e5
  obtain ⟨p6, q6, r6⟩ := cpI e6
  obtain ⟨p7, q7, r7⟩ := cpI e7
  have a1 : M1.1 c0 0 = nI (gP G) := by rw [e1]; simp [setI_1]; exact n1
  have o1 : ∀ a, a ≠ c0 → M1.1 a = M.1 a := fun a ha => by rw [e1]; exact setI_o ha
  have a2 : M2.1 c0 0 = nI (gP G) ∧ M2.1 c0 1 = nI (gN G) := by rw [e2]; simp [setI_1, a1]; rw [o1 c1 (by omega)]; exact n2
  have o2 : ∀ a, a ≠ c0 → M2.1 a = M.1 a := fun a ha => by rw [e2, setI_o ha]; exact o1 a ha
  have a3 : M3.1 c0 0 = nI (gP G) ∧ M3.1 c0 1 = nI (gN G) ∧ M3.1 c0 2 = z := by rw [e3]; simp [setI_1, a2.1, a2.2]; rw [o2 c1 (by omega)]; exact n3
  have o3 : ∀ a, a ≠ c0 → M3.1 a = M.1 a := fun a ha => by rw [e3, setI_o ha]; exact o2 a ha
  have s3 : M3.2 = M.2 := by rw [e3, e2, e1]; rfl
  have e81 : M8.1 = M7.1 := by rw [e8]; rfl
  have c7 : M7.1 c0 = M3.1 c0 := by rw [q7 _ (by omega), q6 _ (by omega), q5 _ (by omega), q4 _ (by omega)]
  rw [hP]
  refine ⟨M8, rfl, ⟨?_, ?_, ?_, fun l hl => ?_, fun p hpp => ?_⟩, fun a ha => ⟨?_, ?_⟩⟩
  · rw [e81, c7]; exact a3.1
  · rw [e81, c7]; exact a3.2.1
  · rw [e81, c7]; exact a3.2.2
  · obtain ⟨m1, m2, m3, m4⟩ := n4 l hl
    rw [e81]
    refine ⟨?_, ?_, ?_, ?_⟩
    · rw [q7 _ (by omega), q6 _ (by omega), q5 _ (by omega), p4 l (by omega), o3 _ (by omega)]; exact m1
    · rw [q7 _ (by omega), q6 _ (by omega), p5 l (by omega), q4 _ (by omega), o3 _ (by omega)]; exact m2
    · rw [q7 _ (by omega), p6 l (by omega), q5 _ (by omega), q4 _ (by omega), o3 _ (by omega)]; exact m3
    · rw [p7 l (by omega), q6 _ (by omega), q5 _ (by omega), q4 _ (by omega), o3 _ (by omega)]; exact m4
  · rw [e8, putJ_2, if_pos rfl]
    show va_cpy _ _ 0 0 6 p = _
    rw [pk_cpy_in (by omega) (by omega), Nat.zero_add, r7, r6, r5, r4, s3]
    exact n5 p hpp
  · rw [e81, q7 _ (by omega), q6 _ (by omega), q5 _ (by omega), q4 _ (by omega), o3 _ (by omega)]
  · rw [e8]
    funext b
    rw [putJ_2, if_neg (by omega), r7, r6, r5, r4, s3]
def kpI (M : Mem) (k i : Nat) : Mem := (fun a b => if a = 24 ∧ 40 * k ≤ b ∧ b < 40 * k + 4 * i then M.1 (1 + (b - 40 * k) % 4) ((b - 40 * k) / 4) else M.1 a b, M.2)
def kpJ (M : Mem) (k i : Nat) : Mem := (M.1, fun a b => if a = 25 ∧ 6 * k ≤ b ∧ b < 6 * k + i then M.2 5 (b - 6 * k) else M.2 a b)
theorem kpI_0 (M : Mem) (k : Nat) : kpI M k 0 = M := by
  refine Prod.ext ?_ rfl
  funext a b
  show (if _ then _ else _) = _
  rw [if_neg (by omega)]
theorem kpJ_0 (M : Mem) (k : Nat) : kpJ M k 0 = M := by
  refine Prod.ext rfl ?_
  funext a b
  show (if _ then _ else _) = _
  rw [if_neg (by omega)]
theorem kpI_s (M : Mem) (k i : Nat) : setI (setI (setI (setI (kpI M k i) 24 (40 * k + 4 * i) (M.1 1 i)) 24 (40 * k + 4 * i + 1) (M.1 2 i)) 24 (40 * k + 4 * i + 2) (M.1 3 i)) 24 (40 * k + 4 * i + 3) (M.1 4 i) = kpI M k (i + 1) := by
  refine Prod.ext ?_ rfl
  funext a b
  rw [setI_1, setI_1, setI_1, setI_1]
  show _ = (if _ then _ else _)
  by_cases ha : a = 24
  · subst ha
    rw [if_pos rfl, if_pos rfl, if_pos rfl, if_pos rfl]
    by_cases h3 : b = 40 * k + 4 * i + 3
    · subst h3
      rw [if_pos rfl, if_pos (by omega), show (40 * k + 4 * i + 3 - 40 * k) % 4 = 3 by omega, show (40 * k + 4 * i + 3 - 40 * k) / 4 = i by omega]
    · rw [if_neg h3]
      by_cases h2 : b = 40 * k + 4 * i + 2
      · subst h2
        rw [if_pos rfl, if_pos (by omega), show (40 * k + 4 * i + 2 - 40 * k) % 4 = 2 by omega, show (40 * k + 4 * i + 2 - 40 * k) / 4 = i by omega]
      · rw [if_neg h2]
        by_cases h1 : b = 40 * k + 4 * i + 1
        · subst h1
          rw [if_pos rfl, if_pos (by omega), show (40 * k + 4 * i + 1 - 40 * k) % 4 = 1 by omega, show (40 * k + 4 * i + 1 - 40 * k) / 4 = i by omega]
        · rw [if_neg h1]
          by_cases h0 : b = 40 * k + 4 * i
          · subst h0
            rw [if_pos rfl, if_pos (by omega), show (40 * k + 4 * i - 40 * k) % 4 = 0 by omega, show (40 * k + 4 * i - 40 * k) / 4 = i by omega]
          · rw [if_neg h0]
            show (if _ then _ else _) = _
            by_cases hq : 40 * k ≤ b ∧ b < 40 * k + 4 * i
            · rw [if_pos ⟨rfl, hq⟩, if_pos (by omega)]
            · rw [if_neg (fun q => hq q.2), if_neg (by omega)]
  · simp only [if_neg ha]
    show (if _ then _ else _) = _
    rw [if_neg (fun q => ha q.1), if_neg (fun q => ha q.1)]
theorem kpJ_s (M : Mem) (k i : Nat) : setJ (kpJ M k i) 25 (6 * k + i) (M.2 5 i) = kpJ M k (i + 1) := by
  refine Prod.ext rfl ?_
  funext a b
  rw [setJ_2]
  show _ = (if _ then _ else _)
  by_cases ha : a = 25
  · subst ha
    rw [if_pos rfl]
    by_cases h0 : b = 6 * k + i
    · subst h0
      rw [if_pos rfl, if_pos (by omega), show 6 * k + i - 6 * k = i by omega]
    · rw [if_neg h0]
      show (if _ then _ else _) = _
      by_cases hq : 6 * k ≤ b ∧ b < 6 * k + i
      · rw [if_pos ⟨rfl, hq⟩, if_pos (by omega)]
      · rw [if_neg (fun q => hq q.2), if_neg (by omega)]
  · rw [if_neg ha]
    show (if _ then _ else _) = _
    rw [if_neg (fun q => ha q.1), if_neg (fun q => ha q.1)]
def kp3 (M : Mem) (k : Nat) : Mem := setI (setI (setI M 23 (3 * k) (M.1 0 0)) 23 (3 * k + 1) (M.1 0 1)) 23 (3 * k + 2) (M.1 0 2)
theorem keeps_e {N k : Nat} {M : Mem} (hN : 2000 ≤ N) (hk : k < 2) : f_X8_keeps N (nI k) M = some (kpJ (kpI (kp3 M k) k 10) k 6) := by
  have x3 : (3 : Int32) * nI k = nI (3 * k) := pk_mul 3 k
  have x6 : (6 : Int32) * nI k = nI (6 * k) := pk_mul 6 k
  have x40 : (40 : Int32) * nI k = nI (40 * k) := pk_mul 40 k
  have y1 : nI (3 * k) + 1 = nI (3 * k + 1) := nI_1 _
  have y2 : nI (3 * k) + 2 = nI (3 * k + 2) := nI_add _ 2
  unfold f_X8_keeps
  rw [x3, ck_t (inb_nI (by omega) (by decide)), nm_e1, y1, ck_t (inb_nI (by omega) (by decide)), nm_e1, y2, ck_t (inb_nI (by omega) (by decide)), nm_e1, nI_clamp (by omega), nI_clamp (by omega), nI_clamp (by omega)]
  show lp _ N (0, kp3 M k) = _
  generalize kp3 M k = M3
  refine lp_cnt 10 (fun i a => a = (nI i, kpI M3 k i)) (fun i a rc hi hI => Or.inr ?_) (fun a rc hI => ?_) N 0 _ (by omega) (by rw [kpI_0]; rfl) (by omega)
  · subst hI
    refine ⟨(nI (i + 1), kpI M3 k (i + 1)), rfl, ?_⟩
    have hi10 : inb (nI i) 10 := inb_nI hi (by decide)
    have hcl : (nI i).toNatClampNeg = i := nI_clamp (by omega)
    have z0 : (40 : Int32) * nI k + (4 : Int32) * nI i = nI (40 * k + 4 * i) := by rw [x40, show (4 : Int32) * nI i = nI (4 * i) from pk_mul 4 i, nI_add]
    have z1 : nI (40 * k + 4 * i) + 1 = nI (40 * k + 4 * i + 1) := nI_1 _
    have z2 : nI (40 * k + 4 * i) + 2 = nI (40 * k + 4 * i + 2) := nI_add _ 2
    have z3 : nI (40 * k + 4 * i) + 3 = nI (40 * k + 4 * i + 3) := nI_add _ 3
    have b0 : inb (nI (40 * k + 4 * i)) 80 := inb_nI (by omega) (by decide)
    have b1 : inb (nI (40 * k + 4 * i + 1)) 80 := inb_nI (by omega) (by decide)
    have b2 : inb (nI (40 * k + 4 * i + 2)) 80 := inb_nI (by omega) (by decide)
    have b3 : inb (nI (40 * k + 4 * i + 3)) 80 := inb_nI (by omega) (by decide)
    have k0 : (nI (40 * k + 4 * i)).toNatClampNeg = 40 * k + 4 * i := nI_clamp (by omega)
    have k1 : (nI (40 * k + 4 * i + 1)).toNatClampNeg = 40 * k + 4 * i + 1 := nI_clamp (by omega)
    have k2 : (nI (40 * k + 4 * i + 2)).toNatClampNeg = 40 * k + 4 * i + 2 := nI_clamp (by omega)
    have k3 : (nI (40 * k + 4 * i + 3)).toNatClampNeg = 40 * k + 4 * i + 3 := nI_clamp (by omega)
    dsimp only
    rw [show (10 : Int32) = nI 10 from rfl, if_neg (nI_ge (b := 10) hi (by decide))]
    simp only [z0, z1, z2, z3, ck_t hi10, ck_t b0, ck_t b1, ck_t b2, ck_t b3, nm_e1, k0, k1, k2, k3, hcl, nI_1]
    have r : ∀ a, a ≠ 24 → ∀ b, (kpI M3 k i).1 a b = M3.1 a b := fun a ha b => by show (if _ then _ else _) = _; rw [if_neg (fun q => ha q.1)]
    have s2 : ∀ (A : Mem) (j : Nat) (v : Int32) (a : Nat), a ≠ 24 → (setI A 24 j v).1 a = A.1 a := fun A j v a ha => setI_o ha
    rw [s2 _ _ _ 4 (by omega), s2 _ _ _ 4 (by omega), s2 _ _ _ 4 (by omega), s2 _ _ _ 3 (by omega), s2 _ _ _ 3 (by omega), s2 _ _ _ 2 (by omega), r 1 (by omega), r 2 (by omega), r 3 (by omega), r 4 (by omega), kpI_s]
  · subst hI
    dsimp only
    rw [if_pos (by decide)]
    generalize kpI M3 k 10 = M4
    refine lp_cnt 6 (fun i a => a = (nI i, kpJ M4 k i)) (fun i a rc hi hI => Or.inr ?_) (fun a rc hI => ?_) N 0 _ (by omega) (by rw [kpJ_0]; rfl) (by omega)
    · subst hI
      refine ⟨(nI (i + 1), kpJ M4 k (i + 1)), rfl, ?_⟩
      have hi6 : inb (nI i) 6 := inb_nI hi (by decide)
      have hcl : (nI i).toNatClampNeg = i := nI_clamp (by omega)
      have z0 : (6 : Int32) * nI k + nI i = nI (6 * k + i) := by rw [x6, nI_add]
      have b0 : inb (nI (6 * k + i)) 12 := inb_nI (by omega) (by decide)
      have k0 : (nI (6 * k + i)).toNatClampNeg = 6 * k + i := nI_clamp (by omega)
      dsimp only
      rw [if_neg (show ¬ (6 : Int32) ≤ nI i from nI_ge (b := 6) hi (by decide))]
      simp only [z0, ck_t hi6, ck_t b0, nm_e1, k0, hcl, nI_1]
      have r : (kpJ M4 k i).2 5 i = M4.2 5 i := by unfold kpJ; dsimp only; rw [if_neg (by omega)]
      rw [r, kpJ_s]
    · subst hI
      dsimp only
      rw [if_pos (by decide)]
/-- what is kept is the net -/
theorem keeps_ok {N k : Nat} {M : Mem} {G : Gr} {z : Int32} {ls : Nat → Int64} (hN : 2000 ≤ N) (hk : k < 2) (hG : GrOk G) (h : NetM M G z ls) : ∃ M', f_X8_keeps N (nI k) M = some M' ∧ KeptM M' k G z ls ∧ (∀ a, a ≠ 23 → a ≠ 24 → M'.1 a = M.1 a) ∧ (∀ a, a ≠ 25 → M'.2 a = M.2 a) ∧ (∀ j, ¬ (3 * k ≤ j ∧ j < 3 * k + 3) → M'.1 23 j = M.1 23 j) ∧ (∀ j, ¬ (40 * k ≤ j ∧ j < 40 * k + 40) → M'.1 24 j = M.1 24 j) ∧ (∀ j, ¬ (6 * k ≤ j ∧ j < 6 * k + 6) → M'.2 25 j = M.2 25 j) := by
  obtain ⟨hp, hn, -⟩ := hG
  obtain ⟨n1, n2, n3, n4, n5⟩ := h
  have w1 : ∀ a b, (kpJ (kpI (kp3 M k) k 10) k 6).1 a b = if a = 24 ∧ 40 * k ≤ b ∧ b < 40 * k + 4 * 10 then (kp3 M k).1 (1 + (b - 40 * k) % 4) ((b - 40 * k) / 4) else (kp3 M k).1 a b := fun a b => rfl
  have w2 : ∀ a b, (kpJ (kpI (kp3 M k) k 10) k 6).2 a b = if a = 25 ∧ 6 * k ≤ b ∧ b < 6 * k + 6 then M.2 5 (b - 6 * k) else M.2 a b := fun a b => rfl
  have w3 : ∀ a, a ≠ 23 → (kp3 M k).1 a = M.1 a := fun a ha => by unfold kp3; rw [setI_o ha, setI_o ha, setI_o ha]
  refine ⟨_, keeps_e hN hk, ⟨?_, ?_, ?_, fun l hl => ⟨?_, ?_, ?_, ?_⟩, fun p hpp => ?_⟩, fun a h1 h2 => ?_, fun a ha => ?_, fun j hj => ?_, fun j hj => ?_, fun j hj => ?_⟩
  · rw [w1, if_neg (by omega)]; simp [kp3, setI_1]; exact n1
  · rw [w1, if_neg (by omega)]; simp [kp3, setI_1]; exact n2
  · rw [w1, if_neg (by omega)]; simp [kp3, setI_1]; exact n3
  · rw [w1, if_pos (by omega), w3 _ (by omega), show (40 * k + 4 * l - 40 * k) % 4 = 0 by omega, show (40 * k + 4 * l - 40 * k) / 4 = l by omega]; exact (n4 l hl).1
  · rw [w1, if_pos (by omega), w3 _ (by omega), show (40 * k + 4 * l + 1 - 40 * k) % 4 = 1 by omega, show (40 * k + 4 * l + 1 - 40 * k) / 4 = l by omega]; exact (n4 l hl).2.1
  · rw [w1, if_pos (by omega), w3 _ (by omega), show (40 * k + 4 * l + 2 - 40 * k) % 4 = 2 by omega, show (40 * k + 4 * l + 2 - 40 * k) / 4 = l by omega]; exact (n4 l hl).2.2.1
  · rw [w1, if_pos (by omega), w3 _ (by omega), show (40 * k + 4 * l + 3 - 40 * k) % 4 = 3 by omega, show (40 * k + 4 * l + 3 - 40 * k) / 4 = l by omega]; exact (n4 l hl).2.2.2
  · rw [w2, if_pos (by omega), show 6 * k + p - 6 * k = p by omega]; exact n5 p hpp
  · funext b; rw [w1, if_neg (by omega), w3 a h1]
  · funext b; rw [w2, if_neg (by omega)]
  · rw [w1, if_neg (by omega)]
    unfold kp3
    rw [setI_1, if_pos rfl, if_neg (by omega), setI_1, if_pos rfl, if_neg (by omega), setI_1, if_pos rfl, if_neg (by omega)]
  · rw [w1, if_neg (by omega), w3 24 (by omega)]
  · rw [w2, if_neg (by omega)]
def pbI (M : Mem) (k i : Nat) : Mem := (fun a b => if (1 ≤ a ∧ a ≤ 4) ∧ b < i then M.1 24 (40 * k + 4 * b + (a - 1)) else M.1 a b, M.2)
def pbJ (M : Mem) (k i : Nat) : Mem := (M.1, fun a b => if a = 5 ∧ b < i then M.2 25 (6 * k + b) else M.2 a b)
theorem pbI_0 (M : Mem) (k : Nat) : pbI M k 0 = M := by
  refine Prod.ext ?_ rfl
  funext a b
  show (if _ then _ else _) = _
  rw [if_neg (by omega)]
theorem pbJ_0 (M : Mem) (k : Nat) : pbJ M k 0 = M := by
  refine Prod.ext rfl ?_
  funext a b
  show (if _ then _ else _) = _
  rw [if_neg (by omega)]
theorem pbI_s (M : Mem) (k i : Nat) : setI (setI (setI (setI (pbI M k i) 1 i (M.1 24 (40 * k + 4 * i))) 2 i (M.1 24 (40 * k + 4 * i + 1))) 3 i (M.1 24 (40 * k + 4 * i + 2))) 4 i (M.1 24 (40 * k + 4 * i + 3)) = pbI M k (i + 1) := by
  refine Prod.ext ?_ rfl
  funext a b
  rw [setI_1, setI_1, setI_1, setI_1]
  show _ = (if _ then _ else _)
  by_cases hb : b = i
  · subst hb
    by_cases a1 : a = 1
    · subst a1; simp
    · by_cases a2 : a = 2
      · subst a2; simp
      · by_cases a3 : a = 3
        · subst a3; simp
        · by_cases a4 : a = 4
          · subst a4; simp
          · rw [if_neg a4, if_neg a3, if_neg a2, if_neg a1, if_neg (by omega)]
            show (if _ then _ else _) = _
            rw [if_neg (by omega)]
  · simp only [if_neg hb, ite_self]
    show (if _ then _ else _) = _
    by_cases q : (1 ≤ a ∧ a ≤ 4) ∧ b < i
    · rw [if_pos q, if_pos (by omega)]
    · rw [if_neg q, if_neg (by omega)]
theorem pbJ_s (M : Mem) (k i : Nat) : setJ (pbJ M k i) 5 i (M.2 25 (6 * k + i)) = pbJ M k (i + 1) := by
  refine Prod.ext rfl ?_
  funext a b
  rw [setJ_2]
  show _ = (if _ then _ else _)
  by_cases ha : a = 5
  · subst ha
    rw [if_pos rfl]
    by_cases h0 : b = i
    · subst h0
      rw [if_pos rfl, if_pos (by omega)]
    · rw [if_neg h0]
      show (if _ then _ else _) = _
      by_cases hq : b < i
      · rw [if_pos ⟨rfl, hq⟩, if_pos (by omega)]
      · rw [if_neg (fun q => hq q.2), if_neg (by omega)]
  · rw [if_neg ha]
    show (if _ then _ else _) = _
    rw [if_neg (fun q => ha q.1), if_neg (fun q => ha q.1)]
def pb3 (M : Mem) (k : Nat) : Mem := setI (setI (setI M 0 0 (M.1 23 (3 * k))) 0 1 (M.1 23 (3 * k + 1))) 0 2 (M.1 23 (3 * k + 2))
theorem puts_e {N k : Nat} {M : Mem} (hN : 2000 ≤ N) (hk : k < 2) : f_X8_putsBack N (nI k) M = some (pbJ (pbI (pb3 M k) k 10) k 6) := by
  have x3 : (3 : Int32) * nI k = nI (3 * k) := pk_mul 3 k
  have x6 : (6 : Int32) * nI k = nI (6 * k) := pk_mul 6 k
  have x40 : (40 : Int32) * nI k = nI (40 * k) := pk_mul 40 k
  have y1 : nI (3 * k) + 1 = nI (3 * k + 1) := nI_1 _
  have y2 : nI (3 * k) + 2 = nI (3 * k + 2) := nI_add _ 2
  unfold f_X8_putsBack
  rw [x3, ck_t (inb_nI (by omega) (by decide)), nm_e1, y1, ck_t (inb_nI (by omega) (by decide)), nm_e1, y2, ck_t (inb_nI (by omega) (by decide)), nm_e1, nI_clamp (by omega), nI_clamp (by omega), nI_clamp (by omega)]
  show lp _ N (0, pb3 M k) = _
  generalize pb3 M k = M3
  refine lp_cnt 10 (fun i a => a = (nI i, pbI M3 k i)) (fun i a rc hi hI => Or.inr ?_) (fun a rc hI => ?_) N 0 _ (by omega) (by rw [pbI_0]; rfl) (by omega)
  · subst hI
    refine ⟨(nI (i + 1), pbI M3 k (i + 1)), rfl, ?_⟩
    have hi10 : inb (nI i) 10 := inb_nI hi (by decide)
    have hcl : (nI i).toNatClampNeg = i := nI_clamp (by omega)
    have z0 : (40 : Int32) * nI k + (4 : Int32) * nI i = nI (40 * k + 4 * i) := by rw [x40, show (4 : Int32) * nI i = nI (4 * i) from pk_mul 4 i, nI_add]
    have z1 : nI (40 * k + 4 * i) + 1 = nI (40 * k + 4 * i + 1) := nI_1 _
    have z2 : nI (40 * k + 4 * i) + 2 = nI (40 * k + 4 * i + 2) := nI_add _ 2
    have z3 : nI (40 * k + 4 * i) + 3 = nI (40 * k + 4 * i + 3) := nI_add _ 3
    have b0 : inb (nI (40 * k + 4 * i)) 80 := inb_nI (by omega) (by decide)
    have b1 : inb (nI (40 * k + 4 * i + 1)) 80 := inb_nI (by omega) (by decide)
    have b2 : inb (nI (40 * k + 4 * i + 2)) 80 := inb_nI (by omega) (by decide)
    have b3 : inb (nI (40 * k + 4 * i + 3)) 80 := inb_nI (by omega) (by decide)
    have k0 : (nI (40 * k + 4 * i)).toNatClampNeg = 40 * k + 4 * i := nI_clamp (by omega)
    have k1 : (nI (40 * k + 4 * i + 1)).toNatClampNeg = 40 * k + 4 * i + 1 := nI_clamp (by omega)
    have k2 : (nI (40 * k + 4 * i + 2)).toNatClampNeg = 40 * k + 4 * i + 2 := nI_clamp (by omega)
    have k3 : (nI (40 * k + 4 * i + 3)).toNatClampNeg = 40 * k + 4 * i + 3 := nI_clamp (by omega)
    dsimp only
    rw [show (10 : Int32) = nI 10 from rfl, if_neg (nI_ge (b := 10) hi (by decide))]
    simp only [z0, z1, z2, z3, ck_t hi10, ck_t b0, ck_t b1, ck_t b2, ck_t b3, nm_e1, k0, k1, k2, k3, hcl, nI_1]
    have r : ∀ b, (pbI M3 k i).1 24 b = M3.1 24 b := fun b => by unfold pbI; dsimp only; rw [if_neg (by omega)]
    have s2 : ∀ (A : Mem) (c j : Nat) (v : Int32), 24 ≠ c → (setI A c j v).1 24 = A.1 24 := fun A c j v hc => setI_o hc
    rw [s2 _ 3 _ _ (by omega), s2 _ 2 _ _ (by omega), s2 _ 1 _ _ (by omega), r, r, r, r, pbI_s]
  · subst hI
    dsimp only
    rw [if_pos (by decide)]
    generalize pbI M3 k 10 = M4
    refine lp_cnt 6 (fun i a => a = (nI i, pbJ M4 k i)) (fun i a rc hi hI => Or.inr ?_) (fun a rc hI => ?_) N 0 _ (by omega) (by rw [pbJ_0]; rfl) (by omega)
    · subst hI
      refine ⟨(nI (i + 1), pbJ M4 k (i + 1)), rfl, ?_⟩
      have hi6 : inb (nI i) 6 := inb_nI hi (by decide)
      have hcl : (nI i).toNatClampNeg = i := nI_clamp (by omega)
      have z0 : (6 : Int32) * nI k + nI i = nI (6 * k + i) := by rw [x6, nI_add]
      have b0 : inb (nI (6 * k + i)) 12 := inb_nI (by omega) (by decide)
      have k0 : (nI (6 * k + i)).toNatClampNeg = 6 * k + i := nI_clamp (by omega)
      dsimp only
      rw [if_neg (show ¬ (6 : Int32) ≤ nI i from nI_ge (b := 6) hi (by decide))]
      simp only [z0, ck_t hi6, ck_t b0, nm_e1, k0, hcl, nI_1]
      have r : (pbJ M4 k i).2 25 (6 * k + i) = M4.2 25 (6 * k + i) := by unfold pbJ; dsimp only; rw [if_neg (by omega)]
      rw [r, pbJ_s]
    · subst hI
      dsimp only
      rw [if_pos (by decide)]
theorem puts_ok {N k : Nat} {M : Mem} {G : Gr} {z : Int32} {ls : Nat → Int64} (hN : 2000 ≤ N) (hk : k < 2) (hG : GrOk G) (h : KeptM M k G z ls) : ∃ M', f_X8_putsBack N (nI k) M = some M' ∧ NetM M' G z ls ∧ (∀ a, 6 ≤ a → M'.1 a = M.1 a ∧ M'.2 a = M.2 a) ∧ (∀ j, 3 ≤ j → M'.1 0 j = M.1 0 j) := by
  obtain ⟨hp, hn, -⟩ := hG
  obtain ⟨n1, n2, n3, n4, n5⟩ := h
  have w1 : ∀ a b, (pbJ (pbI (pb3 M k) k 10) k 6).1 a b = if (1 ≤ a ∧ a ≤ 4) ∧ b < 10 then (pb3 M k).1 24 (40 * k + 4 * b + (a - 1)) else (pb3 M k).1 a b := fun a b => rfl
  have w2 : ∀ a b, (pbJ (pbI (pb3 M k) k 10) k 6).2 a b = if a = 5 ∧ b < 6 then M.2 25 (6 * k + b) else M.2 a b := fun a b => rfl
  have w3 : ∀ a, a ≠ 0 → (pb3 M k).1 a = M.1 a := fun a ha => by unfold pb3; rw [setI_o ha, setI_o ha, setI_o ha]
  refine ⟨_, puts_e hN hk, ⟨?_, ?_, ?_, fun l hl => ⟨?_, ?_, ?_, ?_⟩, fun p hpp => ?_⟩, fun a ha => ⟨?_, ?_⟩, fun j hj => ?_⟩
  · rw [w1, if_neg (by omega)]; simp [pb3, setI_1]; exact n1
  · rw [w1, if_neg (by omega)]; simp [pb3, setI_1]; exact n2
  · rw [w1, if_neg (by omega)]; simp [pb3, setI_1]; exact n3
  · rw [w1, if_pos (by omega), w3 _ (by omega)]; exact (n4 l hl).1
  · rw [w1, if_pos (by omega), w3 _ (by omega)]; exact (n4 l hl).2.1
  · rw [w1, if_pos (by omega), w3 _ (by omega)]; exact (n4 l hl).2.2.1
  · rw [w1, if_pos (by omega), w3 _ (by omega)]; exact (n4 l hl).2.2.2
  · rw [w2, if_pos (by omega)]; exact n5 p hpp
  · funext b; rw [w1, if_neg (by omega), w3 a (by omega)]
  · funext b; rw [w2, if_neg (by omega)]
  · rw [w1, if_neg (by omega)]
    unfold pb3
    rw [setI_1, if_pos rfl, if_neg (by omega), setI_1, if_pos rfl, if_neg (by omega), setI_1, if_pos rfl, if_neg (by omega)]
theorem s_41 {N : Nat} (hN : 2000 ≤ N) : St_41 N Rel := by
  intro Mx Mm h
  obtain ⟨G, z, ls, g1, g2, g3, g4, g5, g6, g7, g8, g9⟩ := h
  obtain ⟨Mx', x1, x2, x3⟩ := bec (N := N) (c0 := 7) (c1 := 1) (by omega) g1 g2
  obtain ⟨Mm', m1, m2, m3, m4, m5, m6, m7⟩ := keeps_ok (k := 0) hN (by omega) g1 g3
  have m1 : f_X8_keeps N 0 Mm = some Mm' := m1
  have X2 := g2.ag (M' := Mx') (fun a h1 h2 => x3 a (by omega))
  refine ⟨nI (gN G), setI Mx' 0 3 1, setI Mm' 0 43 1, ?_, ?_, G, z, ls, g1, X2.ag (fun a h1 h2 => ⟨setI_o (by omega), rfl⟩), (g3.ag (M' := Mm') (fun j hj => by rw [m3 0 (by omega) (by omega)]) (fun a h1 h2 => ⟨m3 a (by omega) (by omega), m4 a (by omega)⟩)).ag (fun j hj => by simp [setI_1]; omega) (fun a h1 h2 => ⟨setI_o (by omega), rfl⟩), ?_, g5.ag (fun a h1 h2 => ?_), ?_, ?_, ?_, ?_⟩
  · unfold f_X7_image; rw [x1, bd_s, ck_t (Or.inr rfl), nm_e1]; simp [setI_1]; exact X2.2.1
  · unfold f_X8_image; rw [m1, bd_s, ck_t (Or.inr rfl), nm_e1]; simp [setI_1]; rw [m3 0 (by omega) (by omega)]; exact g3.2.1
  · simp [setI_1]; rw [m3 0 (by omega) (by omega)]; exact g4
  · rw [setI_o (by omega), (x3 a (by omega)).1]
  · refine ⟨by simp [setI_1], Or.inr ⟨by simp [setI_1], G, z, ls, g1, x2.ag (fun a h1 h2 => ⟨setI_o (by omega), rfl⟩), m2.ag (fun j _ _ => by simp [setI_1]) (fun j _ _ => by simp [setI_1]) (fun j _ _ => rfl) g1⟩⟩
  · exact fun q hq => (g7 q hq).ag ⟨by rw [setI_o (by omega), (x3 _ (by omega)).1], by rw [setI_2, (x3 _ (by omega)).2]⟩ (fun a h1 h2 => ⟨by rw [setI_o (by omega), m3 a (by omega) (by omega)], by rw [setI_2, m4 a (by omega)]⟩)
  · exact fun s hs => (g8 s hs).ag ⟨by rw [setI_o (by omega), (x3 _ (by omega)).1], by rw [setI_2, (x3 _ (by omega)).2]⟩ (by rw [setI_o (by omega), m3 20 (by omega) (by omega)]) (by rw [setI_o (by omega), m3 21 (by omega) (by omega)]) (fun i _ => by rw [setI_2, m4 22 (by omega)])
  · exact g9.ag (by rw [setI_o (by omega), (x3 31 (by omega)).1]) (by rw [setI_o (by omega), (x3 32 (by omega)).1]) (by simp [setI_1]; rw [m3 0 (by omega) (by omega)]) (by rw [setI_o (by omega), m3 18 (by omega) (by omega)])
theorem s_42 {N : Nat} (hN : 2000 ≤ N) : St_42 N Rel := by
  intro Mx Mm h
  obtain ⟨G, z, ls, hc⟩ := id h
  obtain ⟨g1, g2, g3, g4, g5, g6, g7, g8, g9⟩ := id hc
  obtain ⟨i1, i2⟩ := g6
  apply rr_st
  unfold f_X7_back f_X8_back
  rw [i1]
  rcases i2 with i2 | ⟨i2, G', z', ls', k1, k2, k3⟩
  · rw [if_pos i2, if_pos i2]; exact rr_ret ⟨rfl, h⟩
  · rw [if_neg (by rw [i2]; decide), if_neg (by rw [i2]; decide), fgt_e, bd_s]
    obtain ⟨Mx', x1, x2, x3⟩ := bec (N := N) (c0 := 1) (c1 := 7) (by omega) k1 (fgt_NetX k2 (by omega))
    obtain ⟨Mm', m1, m2, m3, m4⟩ := puts_ok (k := 0) hN (by omega) k1 k3
    have m1 : f_X8_putsBack N 0 Mm = some Mm' := m1
    rw [x1, m1, bd_s, bd_s]
    refine rr_ret ⟨x2.2.1.trans m2.2.1.symm, G', z', ls', Cmp_net hc (fun a h1 h2 => ⟨?_, ?_⟩) m4 m3 k1 x2 m2 (fgt_Bk (M := Mx) ?_)⟩
    · show Mx'.1 a = _
      rw [(x3 a (by omega)).1, fgt_o (by omega)]
    · show Mx'.2 a = _
      rw [(x3 a (by omega)).2]; rfl
    · show Mx'.1 19 = _
      exact (x3 19 (by omega)).1
