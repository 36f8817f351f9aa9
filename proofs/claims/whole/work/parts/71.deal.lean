/-! nets by draws -/
def drw (z : Int32) : Int32 := z * 1103515245 + 12345
theorem drw_n (z : Int32) : ∃ d : Nat, d < 65536 ∧ ushrI (drw z) 16 = nI d := by
  have h := pk_ushr (drw z) 16 16 (by decide)
  have hb : (drw z).toBitVec.toNat < 2 ^ 32 := (drw z).toBitVec.isLt
  refine ⟨(drw z).toBitVec.toNat / 2 ^ 16, by omega, ?_⟩
  have e : (ushrI (drw z) 16).toBitVec = (nI ((drw z).toBitVec.toNat / 2 ^ 16)).toBitVec := by
    apply BitVec.eq_of_toNat_eq
    rw [pk_tn (by omega)]
    exact h
  exact Int32.toBitVec_inj.mp e
theorem drX {N c : Nat} {M : Mem} {z : Int32} (h : M.1 c 2 = z) : f_X1_draw N c M = some (ushrI (drw z) 16, setI M c 2 (drw z)) := by
  unfold f_X1_draw; rw [nm_e1, h]; simp [setI_1, drw]
theorem drM {N : Nat} {M : Mem} {z : Int32} (h : M.1 0 2 = z) : f_X8_draw N M = some (ushrI (drw z) 16, setI M 0 2 (drw z)) := by
  unfold f_X8_draw; rw [nm_e1, h]; simp [setI_1, drw]
/-- both nets, and nothing but them (and the book) changed since -/
def DlR (G : Gr) (z : Int32) (ls : Nat → Int64) (Mx Mm A B : Mem) : Prop := GrOk G ∧ NetX A 1 G z ls ∧ NetM B G z ls ∧ (∀ a, ¬ (1 ≤ a ∧ a ≤ 6) → A.1 a = Mx.1 a ∧ A.2 a = Mx.2 a) ∧ (∀ j, 3 ≤ j → B.1 0 j = Mm.1 0 j) ∧ ∀ a, 6 ≤ a → B.1 a = Mm.1 a ∧ B.2 a = Mm.2 a
theorem DlR.drw {G : Gr} {z : Int32} {ls : Nat → Int64} {Mx Mm A B : Mem} (h : DlR G z ls Mx Mm A B) (y : Int32) : DlR G y ls Mx Mm (setI A 1 2 y) (setI B 0 2 y) := by
  obtain ⟨h1, h2, h3, h4, h5, h6⟩ := h
  refine ⟨h1, ?_, ?_, fun a ha => ⟨by rw [setI_o (by omega)]; exact (h4 a ha).1, (h4 a ha).2⟩, fun j hj => ?_, fun a ha => ⟨by rw [setI_o (by omega)]; exact (h6 a ha).1, (h6 a ha).2⟩⟩
  · obtain ⟨a, b, c, d, e⟩ := h2
    exact ⟨by simp [setI_1]; exact a, by simp [setI_1]; exact b, by simp [setI_1], fun l hl => by simp [setI_1]; exact d l hl, e⟩
  · obtain ⟨a, b, c, d, e⟩ := h3
    exact ⟨by simp [setI_1]; exact a, by simp [setI_1]; exact b, by simp [setI_1], fun l hl => by simp [setI_1]; exact d l hl, e⟩
  · rw [setI_1, if_pos rfl, if_neg (by omega)]; exact h5 j hj
theorem DlR.addL {G : Gr} {z : Int32} {ls : Nat → Int64} {Mx Mm A B : Mem} (h : DlR G z ls Mx Mm A B) {k f a b : Nat} (hn : gN G < 10) (hk : k < 5) (hf : 1 ≤ f ∧ f ≤ 3) (hab : a < b) (hb : b < gP G) (hj : ¬ Jnd G a b) : DlR (grAdd G k f a b) z ls Mx Mm (adLX A 1 (gN G) (nI k) (nI f) (nI a) (nI b)) (adLM B (gN G) (nI k) (nI f) (nI a) (nI b)) := by
  obtain ⟨h1, h2, h3, h4, h5, h6⟩ := h
  refine ⟨h1.addL hn hk hf hab hb hj, h2.addL k f a b, h3.addL k f a b, fun q hq => ⟨?_, (h4 q hq).2⟩, fun j hj => ?_, fun q hq => ⟨?_, (h6 q hq).2⟩⟩
  · unfold adLX; rw [setI_o (by omega), setI_o (by omega), setI_o (by omega), setI_o (by omega), setI_o (by omega)]; exact (h4 q hq).1
  · unfold adLM; rw [setI_1, if_pos rfl, if_neg (by omega), setI_o (by omega), setI_o (by omega), setI_o (by omega), setI_o (by omega)]; exact h5 j hj
  · unfold adLM; rw [setI_o (by omega), setI_o (by omega), setI_o (by omega), setI_o (by omega), setI_o (by omega)]; exact (h6 q hq).1
theorem DlR.fin {G0 : Gr} {z0 : Int32} {ls0 : Nat → Int64} {G : Gr} {z : Int32} {ls : Nat → Int64} {Mx Mm A B : Mem} (hc : Cmp G0 z0 ls0 Mx Mm) (h : DlR G z ls (fgt Mx) Mm A B) : Rel A B := by
  obtain ⟨h1, h2, h3, h4, h5, h6⟩ := h
  exact ⟨G, z, ls, Cmp_net hc (fun a q1 q2 => ⟨by rw [(h4 a q1).1, fgt_o (by omega)], (h4 a q1).2⟩) h5 h6 h1 h2 h3 (fgt_Bk (M := Mx) (h4 19 (by omega)).1)⟩
theorem mn_l {a b : Nat} (h : a < b) : mn a b = a := if_pos (by omega)
theorem mx_r {a b : Nat} (h : a < b) : mx a b = b := if_pos h
/-- both sides at once; the left one may be through before the right one -/
theorem rr_S2 {α α' β β' : Type} {b : (α → Option β) → α → Option β} {b' : (α' → Option β') → α' → Option β'} {S : Option β → Option β' → Prop} (J : Nat → α → α' → Prop) (K : Nat → Option β → α' → Prop) (hk : ∀ (n : Nat) (o : Option β) (a' : α') (rc' : α' → Option β'), K n o a' → S o (b' rc' a') ∨ ∃ m c', m < n ∧ K m o c' ∧ b' rc' a' = rc' c') (hs : ∀ (n : Nat) (a : α) (a' : α') (rc : α → Option β) (rc' : α' → Option β'), J n a a' → S (b rc a) (b' rc' a') ∨ (∃ m c c', m < n ∧ J m c c' ∧ b rc a = rc c ∧ b' rc' a' = rc' c') ∨ ∃ m, m ≤ n ∧ K m (b rc a) a') : ∀ (N n : Nat) (a : α) (a' : α'), J n a a' → n < N → S (lp b N a) (lp b' N a') := by
  intro N
  induction N with
  | zero => intro n a a' _ h; omega
  | succ N ih =>
    intro n a a' hJ hn
    rcases hs n a a' (lp b N) (lp b' N) hJ with h | ⟨m, c, c', h1, h2, h3, h4⟩ | ⟨m, h1, h2⟩
    · exact h
    · show S (b (lp b N) a) (b' (lp b' N) a')
      rw [h3, h4]; exact ih m c c' h2 (by omega)
    · show S (b (lp b N) a) (lp b' (N + 1) a')
      exact lp_S (S := S (b (lp b N) a)) (fun k q => K k (b (lp b N) a) q) (fun k q rc' hq => hk k _ q rc' hq) (N + 1) m a' h2 (by omega)
theorem s_35 {N : Nat} (hN : 2000 ≤ N) : St_35 N Rel := by
  intro Mx Mm a0 a1 h
  apply rr_st
  obtain ⟨G, z, ls, hc⟩ := id h
  obtain ⟨hG, hX, hM, -⟩ := id hc
  unfold f_X7_deal f_X8_deal
  rw [within_e, inI_e N a0 1 6 Mm (by decide) (by decide), bd_s, bd_s, ite_bI, ite_bI]
  refine rr_ite Iff.rfl (fun v0 => ?_) (fun _ => rr_ret ⟨rfl, h⟩)
  rw [within_e, inI_e N a1 0 10 Mm (by decide) (by decide), bd_s, bd_s, ite_bI, ite_bI]
  refine rr_ite Iff.rfl (fun v1 => ?_) (fun _ => rr_ret ⟨rfl, h⟩)
  obtain ⟨n, n1, n6, rfl⟩ := nI_of_1 6 (by decide) v0
  obtain ⟨o, o10, rfl⟩ := nI_of_le 10 (by decide) v1
  rw [fgt_e, bd_s, nm_e1, nm_e1, nm_e1, nm_e1, addP_X (p := 0) hN (by simp [setI_1]; rfl) (by omega), addP_M (p := 0) hN (by simp [setI_1]; rfl) (by omega), bd_s, bd_s]
  have X0 : NetX (setI (setI (fgt Mx) 1 0 0) 1 1 0) 1 (0, 0, gK G, gF G, gA G, gB G) z ls := by
    refine ⟨by simp [setI_1]; rfl, by simp [setI_1]; rfl, by simp [setI_1]; rw [fgt_o (by omega)]; exact hX.2.2.1, fun l hl => ?_, fun p hp => ?_⟩
    · exact absurd hl (Nat.not_lt_zero _)
    · exact absurd hp (Nat.not_lt_zero _)
  have M0 : NetM (setI (setI Mm 0 0 0) 0 1 0) (0, 0, gK G, gF G, gA G, gB G) z ls := by
    refine ⟨by simp [setI_1]; rfl, by simp [setI_1]; rfl, by simp [setI_1]; exact hM.2.2.1, fun l hl => ?_, fun p hp => ?_⟩
    · exact absurd hl (Nat.not_lt_zero _)
    · exact absurd hp (Nat.not_lt_zero _)
  have G0 : GrOk (0, 0, gK G, gF G, gA G, gB G) := ⟨Nat.zero_le _, Nat.zero_le _, fun l hl => absurd hl (Nat.not_lt_zero _), fun l m hl => absurd hl (Nat.not_lt_zero _)⟩
  have X1 := X0.addP (n := n)
  have M1 := M0.addP (n := n)
  have G1 := G0.addP (n := n) (by show 0 + n ≤ 6; omega)
  have D1 : DlR _ _ _ (fgt Mx) Mm _ _ := ⟨G1, X1, M1, fun a ha => ⟨?_, ?_⟩, fun j hj => ?_, fun a ha => ⟨?_, ?_⟩⟩
  rotate_left
  · show (setI (setI (setI (fgt Mx) 1 0 0) 1 1 0) 1 0 _).1 a = _
    rw [setI_o (by omega), setI_o (by omega), setI_o (by omega)]
  · funext b
    show (if _ then _ else _) = _
    rw [if_neg (by omega)]; rfl
  · show (setI (setI (setI Mm 0 0 0) 0 1 0) 0 0 _).1 0 j = _
    rw [setI_1, if_pos rfl, if_neg (by omega), setI_1, if_pos rfl, if_neg (by omega), setI_1, if_pos rfl, if_neg (by omega)]
  · show (setI (setI (setI Mm 0 0 0) 0 1 0) 0 0 _).1 a = _
    rw [setI_o (by omega), setI_o (by omega), setI_o (by omega)]
  · funext b
    show (if _ then _ else _) = _
    rw [if_neg (by omega)]; rfl
  refine rr_lp (fun q a a' => ∃ b, b + q = n ∧ 1 ≤ b ∧ a.1 = nI b ∧ a'.1 = nI b ∧ ∃ G' z' ls', gP G' = n ∧ (∀ l, l < gN G' → gB G' l < b) ∧ DlR G' z' ls' (fgt Mx) Mm a.2 a'.2) (fun q a a' rc rc' hJ => ?_) N (n - 1) _ _ ⟨1, by omega, by omega, rfl, rfl, _, _, _, by show 0 + n = n; omega, fun l hl => absurd hl (Nat.not_lt_zero _), D1⟩ (by omega)
  obtain ⟨i, A⟩ := a
  obtain ⟨i', B⟩ := a'
  obtain ⟨b, hb, b1, j1, j2, G', z', ls', p1, p2, D⟩ := hJ
  dsimp only at j1 j2 D ⊢
  subst j1 j2
  cases q with
  | zero =>
    left
    have : b = n := by omega
    subst this
    rw [if_pos (nI_le (a := b) (b := b) (Nat.le_refl _) (by omega)), if_pos (nI_le (a := b) (b := b) (Nat.le_refl _) (by omega))]
    exact rr_ret ⟨D.2.1.2.1.trans D.2.2.1.2.1.symm, D.fin hc⟩
  | succ q =>
    right
    rw [if_neg (nI_ge (show b < n by omega) (by omega)), if_neg (nI_ge (show b < n by omega) (by omega))]
    -- the inner loop: all lesser points
    obtain ⟨S, hS⟩ : ∃ S : Option (Int32 × Mem) → Option (Int32 × Mem) → Prop, S = (fun (o o' : Option (Int32 × Mem)) => ∃ A' B', (∃ G' z' ls', gP G' = n ∧ (∀ l, l < gN G' → gB G' l < b + 1) ∧ DlR G' z' ls' (fgt Mx) Mm A' B') ∧ o = rc (nI (b + 1), A') ∧ o' = rc' (nI (b + 1), B')) := ⟨_, rfl⟩
    suffices key : S (lp (fun (k64 : (Int32 × Mem) → Option (Int32 × Mem)) (a64 : Int32 × Mem) => jn (fun (a136 : Unit) => nm (nI b + (1 : Int32)) (fun v11 => rc (v11, a64.2))) (fun (k136 : Unit → Option (Int32 × Mem)) => if nI b ≤ a64.1 then (k136 ()) else (if (10 : Int32) ≤ (a64.2.1 1 1) then (k136 ()) else (bd (f_X1_draw N 1 a64.2) (fun w14 => ck (¬ (10 : Int32) = 0) (jn (fun (a130 : Mem) => nm (a64.1 + (1 : Int32)) (fun v15 => k64 (v15, a130))) (fun (k130 : Mem → Option (Int32 × Mem)) => if nI o ≤ (w14.1 - w14.1 / (10 : Int32) * (10 : Int32)) then (k130 w14.2) else (bd (f_X1_draw N 1 w14.2) (fun w18 => ck (¬ (5 : Int32) = 0) (nm (w18.1 - w18.1 / (5 : Int32) * (5 : Int32)) (fun v19 => bd (f_X1_draw N 1 w18.2) (fun w22 => ck (¬ (3 : Int32) = 0) (bd (f_X1_addLine N 1 v19 ((1 : Int32) + (w22.1 - w22.1 / (3 : Int32) * (3 : Int32))) a64.1 (nI b) w22.2) (fun M24 => k130 M24)))))))))))))) N ((0 : Int32), A)) (lp (fun (k52 : (Int32 × Mem) → Option (Int32 × Mem)) (a52 : Int32 × Mem) => if nI b ≤ a52.1 then (nm (nI b + (1 : Int32)) (fun v9 => rc' (v9, a52.2))) else (jn (fun (a106 : Mem) => nm (a52.1 + (1 : Int32)) (fun v10 => k52 (v10, a106))) (fun (k106 : Mem → Option (Int32 × Mem)) => if (a52.2.1 0 1) = (10 : Int32) then (k106 a52.2) else (bd (f_X8_draw N  a52.2) (fun w13 => ck (¬ (10 : Int32) = 0) (if (w13.1 - w13.1 / (10 : Int32) * (10 : Int32)) < nI o then (bd (f_X8_draw N  w13.2) (fun w16 => ck (¬ (5 : Int32) = 0) (nm (w16.1 - w16.1 / (5 : Int32) * (5 : Int32)) (fun v17 => bd (f_X8_draw N  w16.2) (fun w20 => ck (¬ (3 : Int32) = 0) (bd (f_X8_lineComes N v17 ((1 : Int32) + (w20.1 - w20.1 / (3 : Int32) * (3 : Int32))) a52.1 (nI b) w20.2) (fun M22 => k106 M22))))))) else (k106 w13.2))))))) N ((0 : Int32), B)) by
      rw [hS] at key
      obtain ⟨A', B', ⟨G', z', ls', r1, r2, r3⟩, r4, r5⟩ := key
      exact ⟨q, _, _, by omega, ⟨b + 1, by omega, by omega, rfl, rfl, G', z', ls', r1, r2, r3⟩, r4, r5⟩
    have hb6 : b < n := by omega
    refine rr_S2 (S := S) (fun (k : Nat) (a a' : Int32 × Mem) => ∃ i, i + k = b ∧ a.1 = nI i ∧ a'.1 = nI i ∧ ∃ G' z' ls', gP G' = n ∧ (∀ l, l < gN G' → gB G' l < b ∨ gB G' l = b ∧ gA G' l < i) ∧ DlR G' z' ls' (fgt Mx) Mm a.2 a'.2) (fun (k : Nat) (o : Option (Int32 × Mem)) (a' : Int32 × Mem) => ∃ i, i + k = b ∧ a'.1 = nI i ∧ a'.2.1 0 1 = nI 10 ∧ ∃ A', o = rc (nI (b + 1), A') ∧ ∃ G' z' ls', gP G' = n ∧ (∀ l, l < gN G' → gB G' l < b + 1) ∧ DlR G' z' ls' (fgt Mx) Mm A' a'.2) ?_ ?_ N b _ _ ⟨0, by omega, rfl, rfl, G', z', ls', p1, fun l hl => Or.inl (p2 l hl), D⟩ (by omega)
    · rintro k o ⟨i, B⟩ kc ⟨ii, h1, h2, h3, A', h4, G', z', ls', h5, h6, h7⟩
      dsimp only at h2 h3 h7 ⊢
      subst h2
      cases k with
      | zero =>
        left
        have : ii = b := by omega
        subst this
        rw [hS]
        refine ⟨A', B, ⟨G', z', ls', h5, h6, h7⟩, h4, ?_⟩
        rw [if_pos (nI_le (a := ii) (b := ii) (Nat.le_refl _) (by omega)), nm_e1, nI_1]
      | succ k =>
        right
        refine ⟨k, (nI (ii + 1), B), by omega, ⟨ii + 1, by omega, rfl, h3, A', h4, G', z', ls', h5, h6, h7⟩, ?_⟩
        rw [if_neg (nI_ge (show ii < b by omega) (by omega)), jn_e, h3, if_pos (show nI 10 = (10 : Int32) from rfl)]
        show nm (nI ii + 1) (fun v10 => kc (v10, B)) = _
        rw [nm_e1, nI_1]
    · rintro k ⟨i, A⟩ ⟨i', B⟩ kc kc' ⟨ii, h1, h2, h2', G', z', ls', h5, h6, D⟩
      dsimp only at h2 h2' D ⊢
      subst h2 h2'
      obtain ⟨d1, d2, d3, d4, d5, d6⟩ := id D
      have hn := d1.2.1
      cases k with
      | zero =>
        left
        have : ii = b := by omega
        subst this
        rw [hS]
        refine ⟨A, B, ⟨G', z', ls', h5, fun l hl => by have := h6 l hl; omega, D⟩, ?_, ?_⟩
        · rw [jn_e, if_pos (nI_le (a := ii) (b := ii) (Nat.le_refl _) (by omega)), nm_e1, nI_1]
        · rw [if_pos (nI_le (a := ii) (b := ii) (Nat.le_refl _) (by omega)), nm_e1, nI_1]
      | succ k =>
        right
        have hlt : ¬ nI b ≤ nI ii := nI_ge (show ii < b by omega) (by omega)
        by_cases c10 : gN G' = 10
        · right
          refine ⟨k + 1, by omega, ii, by omega, rfl, by rw [d3.2.1, c10], A, ?_, G', z', ls', h5, fun l hl => by have := h6 l hl; omega, D⟩
          rw [jn_e, if_neg hlt, d2.2.1, c10, if_pos (show (10 : Int32) ≤ nI 10 by decide), nm_e1, nI_1]
        · left
          obtain ⟨v, hv, ev⟩ := drw_n z'
          obtain ⟨u, hu, eu⟩ := drw_n (drw z')
          obtain ⟨w, hw, ew⟩ := drw_n (drw (drw z'))
          have D1 := D.drw (drw z')
          have D2 := D1.drw (drw (drw z'))
          have D3 := D2.drw (drw (drw (drw z')))
          have r10 : nI v - nI v / (10 : Int32) * (10 : Int32) = nI (v % 10) := pk_rem (d := 10) (by omega) (by decide) (by decide)
          have r5 : nI u - nI u / (5 : Int32) * (5 : Int32) = nI (u % 5) := pk_rem (d := 5) (by omega) (by decide) (by decide)
          have r3 : (1 : Int32) + (nI w - nI w / (3 : Int32) * (3 : Int32)) = nI (1 + w % 3) := by
            rw [show nI w - nI w / (3 : Int32) * (3 : Int32) = nI (w % 3) from pk_rem (d := 3) (by omega) (by decide) (by decide)]
            exact nI_add 1 _
          have nj : ¬ Jnd G' ii b := fun ⟨l, l1, l2, l3⟩ => by have := h6 l l1; omega
          have hn10 : ¬ (10 : Int32) ≤ nI (gN G') := nI_ge (b := 10) (by omega) (by decide)
          have hn10' : ¬ nI (gN G') = (10 : Int32) := nI_ne (b := 10) (by omega) (by decide) c10
          rw [jn_e, if_neg hlt, if_neg hlt, d2.2.1, d3.2.1, if_neg hn10, jn_e, if_neg hn10', drX d2.2.2.1, drM d3.2.2.1, bd_s, bd_s, ck_t (by decide), ck_t (by decide), jn_e]
          dsimp only
          rw [ev, r10]
          by_cases cv : o ≤ v % 10
          · refine ⟨k, (nI (ii + 1), setI A 1 2 (drw z')), (nI (ii + 1), setI B 0 2 (drw z')), by omega, ⟨ii + 1, by omega, rfl, rfl, G', _, ls', h5, fun l hl => by have := h6 l hl; omega, D1⟩, ?_, ?_⟩
            · rw [if_pos (nI_le cv (by omega)), nm_e1, nI_1]
            · rw [if_neg (nI_nlt cv (by omega)), nm_e1, nI_1]
          · have hnn : ∀ G'' : Gr, gN G'' = gN G'' := fun _ => rfl
            rw [if_neg (nI_ge (show v % 10 < o by omega) (by omega)), if_pos (nI_lt (show v % 10 < o by omega) (by omega)), drX D1.2.1.2.2.1, drM D1.2.2.1.2.2.1, bd_s, bd_s, ck_t (by decide), ck_t (by decide), nm_e1, nm_e1]
            dsimp only
            rw [eu, r5, drX D2.2.1.2.2.1, drM D2.2.2.1.2.2.1, bd_s, bd_s, ck_t (by decide), ck_t (by decide)]
            dsimp only
            rw [ew, r3, addL_X D3.2.1.2.1 (by omega) (by omega) (by omega), addL_M D3.2.2.1.2.1 (by omega) (by omega) (by omega) (by omega), bd_s, bd_s, nm_e1, nm_e1, nI_1, mn_l (show ii < b by omega), mx_r (show ii < b by omega)]
            refine ⟨k, _, _, by omega, ⟨ii + 1, by omega, rfl, rfl, grAdd G' (u % 5) (1 + w % 3) ii b, _, ls', h5, fun l hl => ?_, D3.addL (by omega) (by omega) (by omega) (by omega) (by omega) nj⟩, rfl, rfl⟩
            have hl : l < gN G' + 1 := hl
            show (if l = gN G' then b else gB G' l) < b ∨ (if l = gN G' then b else gB G' l) = b ∧ (if l = gN G' then ii else gA G' l) < ii + 1
            by_cases e : l = gN G'
            · rw [if_pos e, if_pos e]; omega
            · rw [if_neg e, if_neg e]; have := h6 l (by omega); omega
