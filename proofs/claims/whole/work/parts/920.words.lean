/-! words, numbers: both sides -/
def WdP (tp : Nat → Int32) (T pos w : Nat) : Prop := tqK tp T pos = 1 ∧ tqE tp T pos - tqS tp T pos = sLen.getD w 0 ∧ ∀ j, j < sLen.getD w 0 → tp (tqS tp T pos + j) = schr w j
theorem sLen_le : ∀ w, w < 9 → 4 ≤ sLen.getD w 0 ∧ sLen.getD w 0 ≤ 6 := by decide
theorem wdX {N : Nat} (hN : 2000 ≤ N) {A : Mem} {tp : Nat → Int32} {T pos w : Nat} (hw : w < 9) (h : TpX A tp T) (hp : pos ≤ T) (hc : CqX A tp T pos) : ∃ b, f_X6_isWord N w A = some (bB b) ∧ (b = true ↔ WdP tp T pos w) := by
  obtain ⟨l1, l2⟩ := sLen_le w hw
  have hT := h.1
  obtain ⟨c1, c2, c3, -⟩ := hc
  obtain ⟨b1, b2, b3, b4, b5, b6⟩ := tq_bd (tp := tp) hp
  unfold f_X6_isWord WdP
  rw [c1, c2, c3]
  generalize tqK tp T pos = k at *
  generalize tqS tp T pos = s at *
  generalize tqE tp T pos = e at *
  generalize hL : sLen.getD w 0 = L at *
  have kk : nI k = (1 : Int32) ↔ k = 1 := nI_eq (b := 1) (by omega) (by decide)
  by_cases k1 : k = 1
  · rw [if_pos (kk.mpr k1), pk_sub b3]
    have kl : nI (e - s) = Int32.ofNat L ↔ e - s = L := nI_eq (a := e - s) (b := L) (by omega) (by omega)
    by_cases d : e - s = L
    · rw [if_pos (kl.mpr d)]
      refine lp_S (S := fun o => ∃ b, o = some (bB b) ∧ (b = true ↔ k = 1 ∧ e - s = L ∧ ∀ j, j < L → tp (s + j) = schr w j)) (fun n (a : Int32) => ∃ j, j + n = L ∧ a = nI j ∧ ∀ i, i < j → tp (s + i) = schr w i) (fun n a rc hJ => ?_) N L _ ⟨0, by omega, rfl, fun i hi => absurd hi (Nat.not_lt_zero _)⟩ (by omega)
      obtain ⟨j, hj, rfl, hi⟩ := hJ
      cases n with
      | zero =>
        left
        have ej : j = L := by omega
        subst ej
        rw [if_pos (show Int32.ofNat j ≤ nI j from nI_le (Nat.le_refl j) (by omega))]
        exact ⟨true, rfl, fun _ => ⟨k1, d, hi⟩, fun _ => rfl⟩
      | succ n =>
        have hjL : j < L := by omega
        rw [if_neg (show ¬ Int32.ofNat L ≤ nI j from nI_ge hjL (by omega)), nI_add, ck_t (inb_nI (by omega) (by decide)), ck_t (inb_nI hjL (by omega)), nI_clamp (by omega), nI_clamp (by omega), h.2.2 _ (by omega)]
        by_cases q : tp (s + j) = schr w j
        · right
          rw [if_pos q, nm_e1, nI_1]
          refine ⟨n, _, by omega, ⟨j + 1, by omega, rfl, fun i hi2 => ?_⟩, rfl⟩
          by_cases z : i = j
          · rw [z]; exact q
          · exact hi i (by omega)
        · left
          rw [if_neg q]
          exact ⟨false, rfl, fun z => absurd z (by decide), fun z => absurd (z.2.2 j hjL) q⟩
    · rw [if_neg (fun q => d (kl.mp q))]
      exact ⟨false, rfl, fun z => absurd z (by decide), fun z => absurd z.2.1 d⟩
  · rw [if_neg (fun q => k1 (kk.mp q))]
    exact ⟨false, rfl, fun z => absurd z (by decide), fun z => absurd z.1 k1⟩
theorem wdM0 {N : Nat} {B : Mem} {tp : Nat → Int32} {T pos L : Nat} {x1 x2 x3 x4 x5 x6 : Int32} (h : TpM B tp T) (hp : pos ≤ T) (hc : RqM B tp T pos) (hL : (L = 4 ∧ x5 = 0) ∨ (L = 5 ∧ x5 ≠ 0 ∧ x6 = 0) ∨ (L = 6 ∧ x5 ≠ 0 ∧ x6 ≠ 0)) : ∃ b, f_X8_isWord N x1 x2 x3 x4 x5 x6 B = some (bB b) ∧ (b = true ↔ tqK tp T pos = 1 ∧ tqE tp T pos - tqS tp T pos = L ∧ tp (tqS tp T pos + 0) = x1 ∧ tp (tqS tp T pos + 1) = x2 ∧ tp (tqS tp T pos + 2) = x3 ∧ tp (tqS tp T pos + 3) = x4 ∧ (5 ≤ L → tp (tqS tp T pos + 4) = x5) ∧ (6 ≤ L → tp (tqS tp T pos + 5) = x6)) := by
  have hT := h.1
  obtain ⟨c1, c2, c3, -⟩ := hc
  obtain ⟨b1, b2, b3, b4, b5, b6⟩ := tq_bd (tp := tp) hp
  unfold f_X8_isWord
  have h20 : ∀ K : Int32 → Option Int32, jn K (fun (k20 : Int32 → Option (Int32)) => if x5 = 0 then (k20 (4 : Int32)) else (if x6 = 0 then (k20 (5 : Int32)) else (k20 (6 : Int32)))) = K (nI L) := fun K => by
    rw [jn_e]
    rcases hL with ⟨q1, q2⟩ | ⟨q1, q2, q3⟩ | ⟨q1, q2, q3⟩
    · rw [if_pos q2, q1]; rfl
    · rw [if_neg q2, if_pos q3, q1]; rfl
    · rw [if_neg q2, if_neg q3, q1]; rfl
  rw [h20, c1, c2]
  have hL6 : 4 ≤ L ∧ L ≤ 6 := by omega
  generalize tqK tp T pos = k at *
  generalize tqS tp T pos = s at *
  generalize tqE tp T pos = e at *
  have kk : nI k = (1 : Int32) ↔ k = 1 := nI_eq (b := 1) (by omega) (by decide)
  by_cases k1 : k = 1
  rotate_left
  · rw [if_neg (fun q => k1 (kk.mp q))]
    exact ⟨false, rfl, fun z => absurd z (by decide), fun z => absurd z.1 k1⟩
  rw [if_pos (kk.mpr k1), c3 (by omega), pk_sub b3]
  have kl : nI (e - s) = nI L ↔ e - s = L := nI_eq (by omega) (by omega)
  by_cases d : e - s = L
  rotate_left
  · rw [if_neg (fun q => d (kl.mp q))]
    exact ⟨false, rfl, fun z => absurd z (by decide), fun z => absurd z.2.1 d⟩
  rw [if_pos (kl.mpr d)]
  have tpv : ∀ j, j < L → inb (nI (s + j)) 120 ∧ (nI (s + j)).toNatClampNeg = s + j ∧ B.1 18 (s + j) = tp (s + j) := fun j hj => ⟨inb_nI (by omega) (by decide), nI_clamp (by omega), h.2.2 _ (by omega)⟩
  have ad : ∀ (j : Nat) (x : Int32), x = nI j → nI s + x = nI (s + j) := fun j x hx => by rw [hx, nI_add]
  obtain ⟨i0, j0, v0⟩ := tpv 0 (by omega)
  obtain ⟨i1, j1, v1⟩ := tpv 1 (by omega)
  obtain ⟨i2, j2, v2⟩ := tpv 2 (by omega)
  obtain ⟨i3, j3, v3⟩ := tpv 3 (by omega)
  rw [Nat.add_zero] at i0 j0 v0
  rw [Nat.add_zero]
  simp only [jn_e, ad 1 1 rfl, ad 2 2 rfl, ad 3 3 rfl, ad 4 4 rfl, ad 5 5 rfl, ck_t i0, ck_t i1, ck_t i2, ck_t i3, j0, j1, j2, j3, v0, v1, v2, v3]
  by_cases y1 : tp s = x1
  rotate_left
  · rw [if_neg y1]; exact ⟨false, rfl, fun z => absurd z (by decide), fun z => absurd z.2.2.1 y1⟩
  rw [if_pos y1]
  by_cases y2 : tp (s + 1) = x2
  rotate_left
  · rw [if_neg y2]; exact ⟨false, rfl, fun z => absurd z (by decide), fun z => absurd z.2.2.2.1 y2⟩
  rw [if_pos y2]
  by_cases y3 : tp (s + 2) = x3
  rotate_left
  · rw [if_neg y3]; exact ⟨false, rfl, fun z => absurd z (by decide), fun z => absurd z.2.2.2.2.1 y3⟩
  rw [if_pos y3]
  by_cases y4 : tp (s + 3) = x4
  rotate_left
  · rw [if_neg y4]; exact ⟨false, rfl, fun z => absurd z (by decide), fun z => absurd z.2.2.2.2.2.1 y4⟩
  rw [if_pos y4]
  by_cases z5 : L < 5
  · rw [if_pos (show nI L < (5 : Int32) from nI_lt (b := 5) z5 (by decide)), if_pos (show nI L < (6 : Int32) from nI_lt (b := 6) (by omega) (by decide))]
    exact ⟨true, rfl, fun _ => ⟨k1, d, y1, y2, y3, y4, fun q => by omega, fun q => by omega⟩, fun _ => rfl⟩
  · obtain ⟨i4, j4, v4⟩ := tpv 4 (by omega)
    rw [if_neg (show ¬ nI L < (5 : Int32) from nI_nlt (b := 5) (by omega) (by omega)), ck_t i4, j4, v4]
    by_cases y5 : tp (s + 4) = x5
    rotate_left
    · rw [if_neg y5]; exact ⟨false, rfl, fun z => absurd z (by decide), fun z => absurd (z.2.2.2.2.2.2.1 (by omega)) y5⟩
    rw [if_pos y5]
    by_cases z6 : L < 6
    · rw [if_pos (show nI L < (6 : Int32) from nI_lt (b := 6) z6 (by decide))]
      exact ⟨true, rfl, fun _ => ⟨k1, d, y1, y2, y3, y4, fun _ => y5, fun q => by omega⟩, fun _ => rfl⟩
    · obtain ⟨i5, j5, v5⟩ := tpv 5 (by omega)
      rw [if_neg (show ¬ nI L < (6 : Int32) from nI_nlt (b := 6) (by omega) (by omega)), ck_t i5, j5, v5]
      by_cases y6 : tp (s + 5) = x6
      rotate_left
      · rw [if_neg y6]; exact ⟨false, rfl, fun z => absurd z (by decide), fun z => absurd (z.2.2.2.2.2.2.2 (by omega)) y6⟩
      rw [if_pos y6]
      exact ⟨true, rfl, fun _ => ⟨k1, d, y1, y2, y3, y4, fun _ => y5, fun _ => y6⟩, fun _ => rfl⟩
/-- a word, on both sides -/
theorem wd_rr {N : Nat} (hN : 2000 ≤ N) {A B : Mem} {tp : Nat → Int32} {T pos w : Nat} {x1 x2 x3 x4 x5 x6 : Int32} (hw : w < 9) (h : TpX A tp T) (hp : pos ≤ T) (hc : CqX A tp T pos) (h' : TpM B tp T) (hc' : RqM B tp T pos) (hL : (sLen.getD w 0 = 4 ∧ x5 = 0) ∨ (sLen.getD w 0 = 5 ∧ x5 ≠ 0 ∧ x6 = 0) ∨ (sLen.getD w 0 = 6 ∧ x5 ≠ 0 ∧ x6 ≠ 0)) (e1 : schr w 0 = x1) (e2 : schr w 1 = x2) (e3 : schr w 2 = x3) (e4 : schr w 3 = x4) (e5 : 5 ≤ sLen.getD w 0 → schr w 4 = x5) (e6 : 6 ≤ sLen.getD w 0 → schr w 5 = x6) : ∃ b, f_X6_isWord N w A = some (bB b) ∧ f_X8_isWord N x1 x2 x3 x4 x5 x6 B = some (bB b) ∧ (b = true → tqK tp T pos = 1) := by
  obtain ⟨b, b1, b2⟩ := wdX (N := N) hN hw h hp hc
  obtain ⟨b', b3, b4⟩ := wdM0 (N := N) (L := sLen.getD w 0) (x1 := x1) (x2 := x2) (x3 := x3) (x4 := x4) (x5 := x5) (x6 := x6) h' hp hc' hL
  obtain ⟨l1, l2⟩ := sLen_le w hw
  have e : b = b' := by
    have hiff : b = true ↔ b' = true := by
      rw [b2, b4]
      unfold WdP
      constructor
      · rintro ⟨q1, q2, q3⟩
        exact ⟨q1, q2, by rw [← e1]; exact q3 0 (by omega), by rw [← e2]; exact q3 1 (by omega), by rw [← e3]; exact q3 2 (by omega), by rw [← e4]; exact q3 3 (by omega), fun z => by rw [← e5 z]; exact q3 4 (by omega), fun z => by rw [← e6 z]; exact q3 5 (by omega)⟩
      · rintro ⟨q1, q2, y1, y2, y3, y4, y5, y6⟩
        refine ⟨q1, q2, fun j hj => ?_⟩
        rcases (show j = 0 ∨ j = 1 ∨ j = 2 ∨ j = 3 ∨ j = 4 ∨ j = 5 by omega) with rfl | rfl | rfl | rfl | rfl | rfl
        · rw [e1]; exact y1
        · rw [e2]; exact y2
        · rw [e3]; exact y3
        · rw [e4]; exact y4
        · rw [e5 (by omega)]; exact y5 (by omega)
        · rw [e6 (by omega)]; exact y6 (by omega)
    cases hb : b <;> cases hb' : b'
    · rfl
    · rw [hb, hb'] at hiff; exact absurd (hiff.mpr rfl) (by decide)
    · rw [hb, hb'] at hiff; exact absurd (hiff.mp rfl) (by decide)
    · rfl
  subst e
  exact ⟨b, b1, b3, fun hb => (b2.mp hb).1⟩
/-- only the reference's marks and read numbers have changed -/
def IsA (B C : Mem) : Prop := (∀ a, a ≠ 0 → a ≠ 19 → C.1 a = B.1 a) ∧ (∀ j, ¬ (32 ≤ j ∧ j ≤ 35) → C.1 0 j = B.1 0 j) ∧ C.2 = B.2
theorem IsA.rf {B : Mem} : IsA B B := ⟨fun _ _ _ => rfl, fun _ _ => rfl, rfl⟩
theorem IsA.tr {B C D : Mem} (h : IsA B C) (h2 : IsA C D) : IsA B D := ⟨fun a a1 a2 => (h2.1 a a1 a2).trans (h.1 a a1 a2), fun j hj => (h2.2.1 j hj).trans (h.2.1 j hj), h2.2.2.trans h.2.2⟩
theorem GsA.is {B C : Mem} (h : GsA B C) : IsA B C := ⟨fun a a1 _ => h.1 a a1, h.2.1, h.2.2⟩
theorem IsA.tp {B C : Mem} {tp : Nat → Int32} {T : Nat} (h : IsA B C) (hT : TpM B tp T) : TpM C tp T := ⟨hT.1, by rw [h.2.1 31 (by omega)]; exact hT.2.1, fun j hj => by rw [h.1 18 (by omega) (by omega)]; exact hT.2.2 j hj⟩
theorem IsA.net {B C : Mem} {G : Gr} {z : Int32} {ls : Nat → Int64} (h : IsA B C) (hM : NetM B G z ls) : NetM C G z ls := hM.ag (fun j hj => h.2.1 j (by omega)) (fun a h1 h2 => ⟨h.1 a (by omega) (by omega), by rw [h.2.2]⟩)
theorem RdA.net {A C : Mem} {G : Gr} {z : Int32} {ls : Nat → Int64} {c : Nat} (h : RdA A C) (hX : NetX A c G z ls) (hc : c + 5 < 31) : NetX C c G z ls := hX.ag (fun a h1 h2 => ⟨h.1 a (by omega), by rw [h.2.2]⟩)
/-- a number, on both sides -/
theorem num_rr {N : Nat} (hN : 2000 ≤ N) {A B : Mem} {tp : Nat → Int32} {T pos kk : Nat} (hkk : kk < 4) {lo hi : Int32} (hhi : hi.toInt ≤ 39) (h : TpX A tp T) (hp : pos ≤ T) (h4 : A.1 31 4 = nI pos) (h' : TpM B tp T) (hc' : RqM B tp T pos) : ∃ A', RdA A A' ∧ ((f_X6_readNumber N lo hi A = some (-1, A') ∧ f_X8_isRead N (nI kk) lo hi B = some (0, B) ∧ A'.1 31 3 = nI (tqS tp T pos) ∧ B.1 0 32 = nI (tqS tp T pos)) ∨ (∃ v B', lo ≤ nI v ∧ nI v ≤ hi ∧ v ≤ 39 ∧ f_X6_readNumber N lo hi A = some (nI v, A') ∧ f_X8_isRead N (nI kk) lo hi B = some (1, B') ∧ A'.1 31 3 = nI (tqS tp T pos) ∧ A'.1 31 4 = nI (tqE tp T pos) ∧ pos < tqE tp T pos ∧ tqE tp T pos ≤ T ∧ RqM B' tp T (tqE tp T pos) ∧ IsA B B' ∧ B'.1 19 kk = nI v ∧ (∀ j, j ≠ kk → B'.1 19 j = B.1 19 j) ∧ tqK tp T pos = 2 ∧ B.1 0 35 = nI v)) := by
  obtain ⟨A', a1, a2, q1, q2, q3, q4⟩ := rdtX (N := N) hN h hp h4
  obtain ⟨b1, b2, b3, b4, b5, b6⟩ := tq_bd (tp := tp) hp
  obtain ⟨v1, v2, v3⟩ := tq_v (tp := tp) hp
  obtain ⟨r1, r2, r3, r4⟩ := hc'
  refine ⟨A', a2, ?_⟩
  unfold f_X6_readNumber f_X8_isRead
  rw [a1, bd_s]
  simp only [jn_e]
  rw [q1, r1]
  by_cases k2 : tqK tp T pos = 2
  rotate_left
  · have kn : ¬ nI (tqK tp T pos) = (2 : Int32) := fun q => k2 ((nI_eq (b := 2) (by omega) (by decide)).mp q)
    rw [if_neg kn, if_neg kn]
    exact Or.inl ⟨rfl, rfl, q2, r2⟩
  · have ky : nI (tqK tp T pos) = (2 : Int32) := by rw [k2]; rfl
    rw [if_pos ky, if_pos ky, q4 k2, r4 k2, inI_e N _ lo hi B (w_toInt _) (w_toInt _), bd_s, ite_bI]
    have tc : (nI (tqC tp T pos)).toInt = (tqC tp T pos : Nat) := nI_toInt (by omega)
    have tr : (nI (tqR tp T pos)).toInt = (tqR tp T pos : Nat) := nI_toInt (by omega)
    by_cases c : lo ≤ nI (tqR tp T pos) ∧ nI (tqR tp T pos) ≤ hi
    · have hr39 : tqR tp T pos ≤ 39 := by have := (i_le _ _).mp c.2; omega
      have ec : tqC tp T pos = tqR tp T pos := by omega
      have kk4 : inb (nI kk) 4 := inb_nI hkk (by decide)
      rw [if_pos c, ec, if_neg (by rw [i_lt]; have := (i_le _ _).mp c.1; omega), if_neg (by rw [i_lt]; have := (i_le _ _).mp c.2; omega), ck_t kk4, nm_e1, nI_clamp (by omega)]
      have hs : GsA (setI B 19 kk (nI (tqR tp T pos))) (setI B 19 kk (nI (tqR tp T pos))) := GsA.rf
      have hI0 : IsA B (setI B 19 kk (nI (tqR tp T pos))) := ⟨fun a a1 a2 => setI_o a2, fun j _ => by rw [setI_o (by decide)], rfl⟩
      obtain ⟨C, g1, g2, g3⟩ := goM (N := N) hN (hI0.tp h') b4 (by rw [setI_o (by decide)]; exact r3 (by omega))
      rw [g1, bd_s]
      right
      refine ⟨tqR tp T pos, C, c.1, c.2, hr39, rfl, rfl, q2, q3, by have := b6 (by omega); omega, b4, g3, hI0.tr g2.is, by rw [g2.1 19 (by omega)]; simp [setI_1], fun j hj => by rw [g2.1 19 (by omega), setI_1, if_pos rfl, if_neg hj], k2, rfl⟩
    · rw [if_neg c]
      left
      refine ⟨?_, rfl, q2, r2⟩
      by_cases d1 : nI (tqC tp T pos) < lo
      · rw [if_pos d1]
      · rw [if_neg d1]
        rw [if_pos]
        rw [i_lt] at d1 ⊢
        rw [i_le, i_le] at c
        omega
