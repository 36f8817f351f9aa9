theorem ite_bI {c : Prop} [Decidable c] {α : Type} {a b : α} : (if bI c = 0 then a else b) = if c then b else a := by
  by_cases h : c
  · rw [if_neg (by rw [bI_0]; exact fun q => q h), if_pos h]
  · rw [if_pos (bI_0.mpr h), if_neg h]
theorem nI_of_le {x : Int32} (k : Nat) (hk : k < 2 ^ 31) (h : 0 ≤ x ∧ x ≤ nI k) : ∃ s, s ≤ k ∧ x = nI s := by
  obtain ⟨j, hj, rfl⟩ := nI_of (x := x) (by rw [i_lt]; have := (i_le _ _).mp h.1; omega)
  exact ⟨j, (nI_leI hj hk).mp h.2, rfl⟩
theorem toI_nI {n : Nat} (h : n < 2 ^ 31) : (nI n).toInt = (n : Int) := nI_toInt h
abbrev Cmp (G : Gr) (z : Int32) (ls : Nat → Int64) (Mx Mm : Mem) : Prop := GrOk G ∧ NetX Mx 1 G z ls ∧ NetM Mm G z ls ∧ Mm.1 0 8 = -1 ∧ Bk Mx G ∧ Img Mx Mm ∧ Hol Mx Mm ∧ She Mx Mm ∧ Tap Mx Mm
/-- only the tape has changed -/
theorem Cmp_tap {Mx Mm Mx' Mm' : Mem} {G : Gr} {z : Int32} {ls : Nat → Int64} (h : Cmp G z ls Mx Mm) (hx : ∀ a, a ≠ 31 → a ≠ 32 → Mx'.1 a = Mx.1 a ∧ Mx'.2 a = Mx.2 a) (hm : ∀ a, a ≠ 0 → a ≠ 18 → Mm'.1 a = Mm.1 a ∧ Mm'.2 a = Mm.2 a) (h0 : ∀ j, j ≠ 31 → Mm'.1 0 j = Mm.1 0 j) (ht : Tap Mx' Mm') : Cmp G z ls Mx' Mm' := by
  obtain ⟨g1, g2, g3, g4, g5, g6, g7, g8, -⟩ := h
  exact ⟨g1, g2.ag (fun a h1 h2 => hx a (by omega) (by omega)), g3.ag (fun j hj => h0 j (by omega)) (fun a h1 h2 => hm a (by omega) (by omega)), by rw [h0 8 (by omega)]; exact g4, g5.ag (fun a h1 h2 => (hx a (by omega) (by omega)).1), g6.ag (by rw [(hx 0 (by omega) (by omega)).1]) (h0 43 (by omega)) (fun a h1 h2 => hx a (by omega) (by omega)) (fun j _ => by rw [(hm 23 (by omega) (by omega)).1]) (fun j _ => by rw [(hm 24 (by omega) (by omega)).1]) (fun j _ => by rw [(hm 25 (by omega) (by omega)).2]), fun h hh => (g7 h hh).ag (hx _ (by omega) (by omega)) (fun a h1 h2 => by rw [(hm a (by omega) (by omega)).1, (hm a (by omega) (by omega)).2]; exact ⟨rfl, rfl⟩), fun s hs => (g8 s hs).ag ⟨(hx _ (by omega) (by omega)).1, (hx _ (by omega) (by omega)).2⟩ (by rw [(hm 20 (by omega) (by omega)).1]) (by rw [(hm 21 (by omega) (by omega)).1]) (fun i _ => by rw [(hm 22 (by omega) (by omega)).2]), ht⟩
theorem s_32 {N : Nat} : St_32 N Rel := by
  intro Mx Mm h
  obtain ⟨G, z, ls, h⟩ := h
  obtain ⟨t, t1, t2, t3, t4⟩ := h.2.2.2.2.2.2.2.2
  refine ⟨nI t, setI Mx 31 0 0, setI Mm 0 31 0, ?_, ?_, ?_⟩
  · unfold f_X7_wipe; rw [nm_e1, nm_e1, t2]
  · unfold f_X8_wipe; rw [nm_e1, nm_e1, t3]
  · refine ⟨G, z, ls, Cmp_tap h (fun a h1 h2 => ⟨setI_o h1, rfl⟩) (fun a h1 h2 => ⟨setI_o h1, rfl⟩) (fun j hj => by simp [setI_1, hj]) ⟨0, by omega, by simp [setI_1, nI_0], by simp [setI_1, nI_0], fun i hi => by omega⟩⟩
theorem s_34 {N : Nat} : St_34 N Rel := by
  intro Mx Mm a0 h
  obtain ⟨G, z, ls, g1, g2, g3, g4, g5, g6, g7, g8, g9⟩ := h
  refine ⟨z, setI Mx 1 2 a0, setI Mm 0 2 a0, ?_, ?_, G, a0, ls, g1, ?_, ?_, ?_, ?_, ?_, ?_, ?_, ?_⟩
  · unfold f_X7_seed; rw [nm_e1, nm_e1, g2.2.2.1]
  · unfold f_X8_seed; rw [nm_e1, nm_e1, g3.2.2.1]
  · obtain ⟨a, b, c, d, e⟩ := g2
    exact ⟨by simp [setI_1]; exact a, by simp [setI_1]; exact b, by simp [setI_1], fun l hl => by simp [setI_1]; exact d l hl, e⟩
  · obtain ⟨a, b, c, d, e⟩ := g3
    exact ⟨by simp [setI_1]; exact a, by simp [setI_1]; exact b, by simp [setI_1], fun l hl => by simp [setI_1]; exact d l hl, e⟩
  · simp [setI_1]; exact g4
  · exact g5.ag (fun a h1 h2 => setI_o (by omega))
  · exact g6.ag (by simp [setI_1]) (by simp [setI_1]) (fun a h1 h2 => ⟨setI_o (by omega), rfl⟩) (fun j _ => by simp [setI_1]) (fun j _ => by simp [setI_1]) (fun j _ => rfl)
  · exact fun h hh => (g7 h hh).ag ⟨setI_o (by omega), rfl⟩ (fun a h1 h2 => ⟨by rw [setI_o (by omega)], rfl⟩)
  · exact fun s hs => (g8 s hs).ag ⟨setI_o (by omega), rfl⟩ (by simp [setI_1]) (by simp [setI_1]) (fun i _ => rfl)
  · exact g9.ag (by simp [setI_1]) (setI_o (by omega)) (by simp [setI_1]) (setI_o (by omega))
/-! both sides at once -/
def RR {α β : Type} (P : α → β → Prop) (A : Option α) (B : Option β) : Prop := ∃ a b, A = some a ∧ B = some b ∧ P a b
theorem rr_ret {α β : Type} {P : α → β → Prop} {a : α} {b : β} (h : P a b) : RR P (some a) (some b) := ⟨a, b, rfl, rfl, h⟩
theorem rr_bd {α β γ δ : Type} {Q : γ → δ → Prop} {P : α → β → Prop} {A : Option γ} {B : Option δ} {k : γ → Option α} {k' : δ → Option β} (h : RR Q A B) (hk : ∀ a b, Q a b → RR P (k a) (k' b)) : RR P (bd A k) (bd B k') := by
  obtain ⟨a, b, rfl, rfl, h⟩ := h
  exact hk a b h
theorem rr_ite {α β : Type} {P : α → β → Prop} {c c' : Prop} [Decidable c] [Decidable c'] {A A' : Option α} {B B' : Option β} (h : c ↔ c') (h1 : c → RR P A B) (h2 : ¬ c → RR P A' B') : RR P (if c then A else A') (if c' then B else B') := by
  by_cases q : c
  · rw [if_pos q, if_pos (h.mp q)]; exact h1 q
  · rw [if_neg q, if_neg (fun z => q (h.mpr z))]; exact h2 q
theorem rr_ck {α β : Type} {P : α → β → Prop} {c c' : Prop} [Decidable c] [Decidable c'] {A : Option α} {B : Option β} (h : c) (h' : c') (hk : RR P A B) : RR P (ck c A) (ck c' B) := by rw [ck_t h, ck_t h']; exact hk
theorem rr_lp {α α' β β' : Type} {b : (α → Option β) → α → Option β} {b' : (α' → Option β') → α' → Option β'} {P : β → β' → Prop} (J : Nat → α → α' → Prop) (hs : ∀ (n : Nat) (a : α) (a' : α') (rc : α → Option β) (rc' : α' → Option β'), J n a a' → RR P (b rc a) (b' rc' a') ∨ ∃ m c c', m < n ∧ J m c c' ∧ b rc a = rc c ∧ b' rc' a' = rc' c') : ∀ (N n : Nat) (a : α) (a' : α'), J n a a' → n < N → RR P (lp b N a) (lp b' N a') := by
  intro N
  induction N with
  | zero => intro n a a' _ h; omega
  | succ N ih =>
    intro n a a' hJ hn
    show RR P (b (lp b N) a) (b' (lp b' N) a')
    rcases hs n a a' (lp b N) (lp b' N) hJ with h | ⟨m, c, c', h1, h2, h3, h4⟩
    · exact h
    · rw [h3, h4]; exact ih m c c' h2 (by omega)
def PR (a b : Int32 × Mem) : Prop := a.1 = b.1 ∧ Rel a.2 b.2
def PJ (a b : Int64 × Mem) : Prop := a.1 = b.1 ∧ Rel a.2 b.2
theorem rr_st {A B : Option (Int32 × Mem)} (h : RR PR A B) : ∃ (r : Int32) (Mx' Mm' : Mem), A = some (r, Mx') ∧ B = some (r, Mm') ∧ Rel Mx' Mm' := by
  obtain ⟨⟨r, a⟩, ⟨r', b⟩, h1, h2, h3, h4⟩ := h
  have e : r = r' := h3
  subst e
  exact ⟨r, a, b, h1, h2, h4⟩
theorem rr_stJ {A B : Option (Int64 × Mem)} (h : RR PJ A B) : ∃ (r : Int64) (Mx' Mm' : Mem), A = some (r, Mx') ∧ B = some (r, Mm') ∧ Rel Mx' Mm' := by
  obtain ⟨⟨r, a⟩, ⟨r', b⟩, h1, h2, h3, h4⟩ := h
  have e : r = r' := h3
  subst e
  exact ⟨r, a, b, h1, h2, h4⟩
theorem s_31 {N : Nat} (hN : 2000 ≤ N) : St_31 N Rel := by
  intro Mx Mm a0 a1 h
  apply rr_st
  unfold f_X7_feed f_X8_feed
  rw [within_e, inI_e N a1 1 4 Mm (by decide) (by decide), bd_s, bd_s, ite_bI, ite_bI]
  obtain ⟨G, z, ls, hc⟩ := id h
  obtain ⟨t, t1, t2, t3, t4⟩ := hc.2.2.2.2.2.2.2.2
  refine rr_ite Iff.rfl (fun hv => ?_) (fun _ => rr_ret ⟨rfl, h⟩)
  obtain ⟨n, n4, rfl⟩ := nI_of_le 4 (by decide) ⟨by rw [i_le] at *; have := hv.1; have e1 : (1 : Int32).toInt = 1 := rfl; have e0 : (0 : Int32).toInt = 0 := rfl; omega, hv.2⟩
  have n1 : 1 ≤ n := (nI_leI (a := 1) (by decide) (by omega)).mp hv.1
  rw [t2, t3]
  have e1 : (120 : Int32) - nI t = nI (120 - t) := pk_sub (a := 120) t1
  rw [e1, nI_add]
  refine rr_ite (by rw [nI_leI (by omega) (by omega), show (120 : Int32) = nI 120 from rfl, nI_leI (by omega) (by omega)]; omega) (fun hle => ?_) (fun _ => rr_ret ⟨rfl, h⟩)
  have hle : n ≤ 120 - t := (nI_leI (by omega) (by omega)).mp hle
  rw [nm_e1, nm_e1]
  refine rr_lp (fun k a a' => a.1 = a'.1 ∧ a.1 = nI k - 1 ∧ Cmp G z ls a.2 a'.2 ∧ ∃ u, u + k ≤ 120 ∧ a.2.1 31 0 = nI u) (fun k a a' rc rc' hJ => ?_) N n _ _ ⟨rfl, rfl, hc, t, by omega, t2⟩ (by omega)
  obtain ⟨i, A⟩ := a
  obtain ⟨i', B⟩ := a'
  obtain ⟨j1, j2, hC, u, j3, j4⟩ := hJ
  dsimp only at j1 j2 hC j3 j4 ⊢
  subst j1
  obtain ⟨t', u1, u2, u3, u4⟩ := hC.2.2.2.2.2.2.2.2
  have eu : t' = u := (nI_eq (by omega) (by omega)).mp (u2.symm.trans j4)
  subst eu
  cases k with
  | zero =>
    left
    have hi : i < 0 := by rw [j2]; decide
    rw [if_pos hi, if_pos hi]
    exact rr_ret ⟨by rw [u2, u3], G, z, ls, hC⟩
  | succ k =>
    right
    have hi' : i = nI k := by rw [j2, nI_pred]
    have hi : ¬ i < 0 := by rw [hi']; exact nI_pos (by omega)
    rw [if_neg hi, if_neg hi]
    refine ⟨k, (i + (-1), setI (setI A 32 t' ((a0 >>> (((8 : Int32) * i) &&& 31)) &&& (255 : Int32))) 31 0 (nI (t' + 1))), (i + (-1), setI (setI B 18 t' ((a0 >>> (((8 : Int32) * i) &&& 31)) &&& (255 : Int32))) 0 31 (nI (t' + 1))), by omega, ⟨rfl, ?_, ?_, t' + 1, by omega, by simp [setI_1]⟩, ?_, ?_⟩
    · show i + (-1) = nI k - 1
      rw [hi']
      exact Int32.add_neg_eq_sub
    · refine Cmp_tap hC (fun a h1 h2 => ⟨by rw [setI_o h1, setI_o h2], rfl⟩) (fun a h1 h2 => ⟨by rw [setI_o h1, setI_o h2], rfl⟩) (fun j hj => by simp [setI_1, hj]) ⟨t' + 1, by omega, by simp [setI_1], by simp [setI_1], fun q hq => ?_⟩
      simp only [setI_1]
      by_cases e : q = t'
      · simp [e]
      · simp [e]; exact u4 q (by omega)
    · unfold f_X6_append
      rw [u2, if_neg (by rw [show (120 : Int32) = nI 120 from rfl, nI_leI (by omega) (by omega)]; omega), ck_t (inb_nI (by omega) (by decide)), nm_e1, nm_e1, bd_s, nm_e1, nI_clamp (by omega)]
      simp [setI_1, u2, nI_add, nI_1]
    · rw [u3, ck_t (inb_nI (by omega) (by decide)), nm_e1, nm_e1, nm_e1, nI_clamp (by omega)]
      simp [setI_1, u3, nI_1]
