/-! fits, place, paint -/
theorem Cmp_scr {Mx Mm Mx' Mm' : Mem} {G : Gr} {z : Int32} {ls : Nat → Int64} (h : Cmp G z ls Mx Mm) (hx : ScrX Mx Mx') (hm : ScrM Mm Mm') (hb : Bk Mx' G) : Cmp G z ls Mx' Mm' := by
  obtain ⟨g1, g2, g3, g4, -, g6, g7, g8, g9⟩ := h
  obtain ⟨x1, x2, x3⟩ := hx
  obtain ⟨m1, m2, m3, m4, m5⟩ := hm
  exact ⟨g1, g2.ag (fun a h1 h2 => x3 a (by omega)), g3.ag (fun j hj => m1 j (by omega)) (fun a h1 h2 => m2 a (by omega)), by rw [m1 8 (by omega)]; exact g4, hb, g6.ag x1 (m1 43 (by omega)) (fun a h1 h2 => x3 a (by omega)) m3 m4 m5, fun h hh => (g7 h hh).ag (x3 _ (by omega)) (fun a h1 h2 => by rw [(m2 a (by omega)).1, (m2 a (by omega)).2]; exact ⟨rfl, rfl⟩), fun s hs => (g8 s hs).ag ⟨(x3 _ (by omega)).1, (x3 _ (by omega)).2⟩ (by rw [(m2 20 (by omega)).1]) (by rw [(m2 21 (by omega)).1]) (fun i _ => by rw [(m2 22 (by omega)).2]), g9.ag x2 (x3 32 (by omega)).1 (m1 31 (by omega)) (m2 18 (by omega)).1⟩
theorem col_cg {G : Gr} {p q : Nat} {L L' : Nat → Nat → Bool} {c : Nat → Nat} (h : ∀ i x, i < gP G → x < p → L i x = L' i x) : Col G p q L c ↔ Col G p q L' c := by
  constructor
  · intro hc; exact ⟨fun i hi => ⟨(hc.1 i hi).1, by rw [← h i _ hi (hc.1 i hi).1]; exact (hc.1 i hi).2⟩, hc.2⟩
  · intro hc; exact ⟨fun i hi => ⟨(hc.1 i hi).1, by rw [h i _ hi (hc.1 i hi).1]; exact (hc.1 i hi).2⟩, hc.2⟩
theorem fst_cg {G : Gr} {p q : Nat} {L L' : Nat → Nat → Bool} {c : Nat → Nat} (h : ∀ i x, i < gP G → x < p → L i x = L' i x) (hf : Fst G p q L c) : Fst G p q L' c := ⟨(col_cg h).mp hf.1, fun d hd => hf.2 d ((col_cg h).mpr hd)⟩
/-- what is asked, on both sides -/
def Msr (a b c : Int32) : Prop := (0 ≤ c ∧ c ≤ 1) ∧ (1 ≤ a ∧ a ≤ if c = 1 then 16 else 40) ∧ (1 ≤ b ∧ b ≤ 6)
theorem msr_rr {N : Nat} {Mx Mm : Mem} (a b c : Int32) : (f_X7_areMeasures N a b c Mx = some 0 ∧ f_X8_areAsked N a b c Mm = some 0) ∨ (f_X7_areMeasures N a b c Mx = some 1 ∧ f_X8_areAsked N a b c Mm = some 1 ∧ ∃ p q li, 1 ≤ p ∧ p ≤ 40 ∧ 1 ≤ q ∧ q ≤ 6 ∧ li ≤ 1 ∧ a = nI p ∧ b = nI q ∧ c = nI li) := by
  unfold f_X7_areMeasures f_X8_areAsked
  rw [within_e, inI_e N c 0 1 Mm (by decide) (by decide), bd_s, bd_s]
  simp only [jn_e]
  rw [ite_bI, ite_bI]
  by_cases h1 : 0 ≤ c ∧ c ≤ 1
  rotate_left
  · rw [if_neg h1, if_neg h1]; exact Or.inl ⟨rfl, rfl⟩
  rw [if_pos h1, if_pos h1]
  have le01 : ∀ x : Int32, 1 ≤ x → 0 ≤ x := fun x hx => by rw [i_le] at *; have e1 : (1 : Int32).toInt = 1 := rfl; have e0 : (0 : Int32).toInt = 0 := rfl; omega
  obtain ⟨li, hli, rfl⟩ := nI_of_le 1 (by decide) h1
  have key : ∀ (t : Int32) (t' : Int64) (m : Nat), t = nI m → t'.toInt = t.toInt → m ≤ 40 → ((bd (f_X7_within N a (1 : Int32) t Mx) (fun v3 => if v3 = 0 then some 0 else (bd (f_X7_within N b (1 : Int32) (6 : Int32) Mx) (fun v5 => if v5 = 0 then some 0 else (some (1 : Int32)))))) = some 0 ∧ (bd (f_X8_in N a.toInt64 (1 : Int64) t' Mm) (fun v3 => if v3 = 0 then some 0 else (bd (f_X8_in N b.toInt64 (1 : Int64) (6 : Int64) Mm) (fun v5 => if v5 = 0 then some 0 else (some (1 : Int32)))))) = some 0) ∨ ((bd (f_X7_within N a (1 : Int32) t Mx) (fun v3 => if v3 = 0 then some 0 else (bd (f_X7_within N b (1 : Int32) (6 : Int32) Mx) (fun v5 => if v5 = 0 then some 0 else (some (1 : Int32)))))) = some 1 ∧ (bd (f_X8_in N a.toInt64 (1 : Int64) t' Mm) (fun v3 => if v3 = 0 then some 0 else (bd (f_X8_in N b.toInt64 (1 : Int64) (6 : Int64) Mm) (fun v5 => if v5 = 0 then some 0 else (some (1 : Int32)))))) = some 1 ∧ ∃ p q li', 1 ≤ p ∧ p ≤ 40 ∧ 1 ≤ q ∧ q ≤ 6 ∧ li' ≤ 1 ∧ a = nI p ∧ b = nI q ∧ nI li = nI li') := by
    intro t t' m ht ht' hm
    rw [within_e, inI_e N a 1 t Mm (by decide) ht', bd_s, bd_s, ite_bI, ite_bI]
    by_cases h2 : 1 ≤ a ∧ a ≤ t
    rotate_left
    · rw [if_neg h2, if_neg h2]; exact Or.inl ⟨rfl, rfl⟩
    rw [if_pos h2, if_pos h2, within_e, inI_e N b 1 6 Mm (by decide) (by decide)]
    simp only [bd_s, ite_bI]
    by_cases h3 : 1 ≤ b ∧ b ≤ 6
    rotate_left
    · simp only [if_neg h3]; exact Or.inl ⟨trivial, trivial⟩
    simp only [if_pos h3]
    rw [ht] at h2
    obtain ⟨p, hp, rfl⟩ := nI_of_le m (by omega) ⟨le01 _ h2.1, h2.2⟩
    obtain ⟨q, hq, rfl⟩ := nI_of_le 6 (by decide) ⟨le01 _ h3.1, h3.2⟩
    have hp1 : 1 ≤ p := (nI_leI (a := 1) (by decide) (by omega)).mp h2.1
    have hq1 : 1 ≤ q := (nI_leI (a := 1) (by decide) (by omega)).mp h3.1
    exact Or.inr ⟨trivial, trivial, p, q, li, hp1, by omega, hq1, hq, hli, rfl, rfl, rfl⟩
  by_cases c1 : nI li = 1
  · rw [if_pos c1, if_pos c1]
    exact key 16 16 16 rfl (by decide) (by omega)
  · rw [if_neg c1, if_neg c1]
    exact key 40 40 40 rfl (by decide) (by omega)
/-- the class's search -/
theorem clsX {N : Nat} (hN : 2000 ≤ N) {G : Gr} {z : Int32} {ls : Nat → Int64} {Mx Mm : Mem} (hc : Cmp G z ls Mx Mm) {p q li : Nat} (hp : p ≤ 40) (hq1 : 1 ≤ q) (hq : q ≤ 6) (hli : li ≤ 1) (x : Int32) : ∃ X Y b Z, f_X4_rateTurns N 1 Mx = some X ∧ f_X2_prepare N 1 (nI p) (nI q) (nI li) X = some Y ∧ f_X2_finds N 1 x Y = some (bB b, Z) ∧ ScrX Mx Z ∧ Bk Z G ∧ (b = true → ∃ c, Col G p q (plc ls li) c ∧ (x ≠ 0 → Fst G p q (plc ls li) c ∧ ∀ i, i < gP G → Z.1 27 i = nI (c i))) ∧ (b = false → ∀ c, ¬ Col G p q (plc ls li) c) := by
  have hG := hc.1
  obtain ⟨X, x1, x2, x3, x4, x5, x6⟩ := rtdX (N := N) hN hc
  obtain ⟨Y, y1, y2, y3⟩ := prepX (N := N) hN hG x6 (p := p) (q := q) (li := li) hp hq hli
  have hXY : NetX Y 1 G z ls := x6.ag (fun a q1 q2 => y2 a (by simp; omega))
  have hRg : RgX Y G := x3.ag (by rw [(y2 19 (by simp)).1]) (by rw [(y2 19 (by simp)).1]) (fun a h1 h2 => (y2 a (by simp; omega)).1)
  have hRt : RtX Y G := by
    unfold RtX at *
    rw [(y2 19 (by simp)).1, (y2 25 (by simp)).1]
    exact x4
  obtain ⟨b, Z, z1, z2, z3, z4⟩ := fiX (N := N) hN hG hXY hRg hRt hp hq1 hq y3 (fun i _ => fre_lt) x
  have hcg : ∀ i y, i < gP G → y < p → (fun i y => (fre ls li p i).testBit y) i y = plc ls li i y := fun i y _ hy => fre_tb hy
  have hYZ : ∀ a, ¬ (26 ≤ a ∧ a ≤ 30) → Z.1 a = X.1 a ∧ Z.2 a = X.2 a := fun a ha => ⟨((z2 a (by simp; omega)).1).trans ((y2 a (by simp; omega)).1), ((z2 a (by simp; omega)).2).trans ((y2 a (by simp; omega)).2)⟩
  refine ⟨X, Y, b, Z, x1, y1, z1, x2.tr ⟨by rw [(hYZ 0 (by omega)).1], by rw [(hYZ 31 (by omega)).1], fun a ha => hYZ a (by omega)⟩, x5.ag (fun a h1 h2 => (hYZ a (by omega)).1), fun hb => ?_, fun hb c hcc => z4 hb c ((col_cg hcg).mpr hcc)⟩
  obtain ⟨c, c1, c2⟩ := z3 hb
  exact ⟨c, (col_cg hcg).mp c1, fun hx => ⟨fst_cg hcg (c2 hx).1, (c2 hx).2⟩⟩
theorem refC {N : Nat} (hN : 2000 ≤ N) {G : Gr} {z : Int32} {ls : Nat → Int64} {Mx Mm : Mem} (hc : Cmp G z ls Mx Mm) {p q li : Nat} (hp1 : 1 ≤ p) (hp : p ≤ 40) (hq : q ≤ 6) (hli : li ≤ 1) : ∃ b A, f_X8_colours N (nI p) (nI q) (nI li) Mm = some (bB b, A) ∧ ScrM Mm A ∧ (∀ j, j ≠ 12 → j ≠ 13 → A.1 0 j = Mm.1 0 j) ∧ (∀ a, a ≠ 0 → a ≠ 7 → A.1 a = Mm.1 a) ∧ (b = true → ∃ c, Fst G p q (plc ls li) c ∧ ∀ i, i < gP G → A.1 7 i = nI (c i)) ∧ (b = false → ∀ c, ¬ Col G p q (plc ls li) c) := by
  obtain ⟨b, A, a1, a2, a3, a4, a5⟩ := colM (N := N) hN hc.1 hc.2.2.1 hc.2.2.2.1 (p := p) (q := q) (li := li) hp1 hp hq hli
  have e0 : ∀ j, j ≠ 12 → j ≠ 13 → A.1 0 j = Mm.1 0 j := fun j j1 j2 => by rw [a2 0 (by omega), setI_1, if_pos rfl, if_neg j2, setI_1, if_pos rfl, if_neg j1]
  have e1 : ∀ a, a ≠ 0 → a ≠ 7 → A.1 a = Mm.1 a := fun a b1 b2 => by rw [a2 a b2, setI_o b1, setI_o b1]
  have e2 : ∀ a, a ≠ 6 → A.2 a = Mm.2 a := fun a b1 => a3 a b1
  exact ⟨b, A, a1, ⟨fun j hj => e0 j (by omega) (by omega), fun a ha => ⟨e1 a (by omega) (by omega), e2 a (by omega)⟩, fun j _ => by rw [e1 23 (by omega) (by omega)], fun j _ => by rw [e1 24 (by omega) (by omega)], fun j _ => by rw [e2 25 (by omega)]⟩, e0, e1, a4, a5⟩
theorem b_eq {b b' : Bool} {P : Prop} (h1 : b = true → P) (h2 : b = false → ¬ P) (h3 : b' = true → P) (h4 : b' = false → ¬ P) : b = b' := by
  cases hb : b <;> cases hb' : b'
  · rfl
  · exact absurd (h3 hb') (h2 hb)
  · exact absurd (h1 hb) (h4 hb')
  · rfl
theorem s_7 {N : Nat} (hN : 2000 ≤ N) : St_7 N Rel := by
  intro Mx Mm a0 a1 a2 h
  apply rr_st
  obtain ⟨G, z, ls, hc⟩ := id h
  unfold f_X7_fits f_X8_fits
  rcases msr_rr (N := N) (Mx := Mx) (Mm := Mm) a0 a1 a2 with ⟨e1, e2⟩ | ⟨e1, e2, p, q, li, hp1, hp, hq1, hq, hli, rfl, rfl, rfl⟩
  · rw [e1, e2, bd_s, bd_s, if_pos rfl, if_pos rfl]; exact rr_ret ⟨rfl, h⟩
  · rw [e1, e2, bd_s, bd_s, if_neg (by decide), if_neg (by decide)]
    obtain ⟨X, Y, b, Z, x1, y1, z1, z2, z3, z4, z5⟩ := clsX (N := N) hN hc (p := p) (q := q) (li := li) hp hq1 hq hli 0
    obtain ⟨b', A, a1, a2, -, -, a3, a4⟩ := refC (N := N) hN hc (p := p) (q := q) (li := li) hp1 hp hq hli
    have e : b = b' := b_eq (P := ∃ c, Col G p q (plc ls li) c) (fun hb => by obtain ⟨c, c1, -⟩ := z4 hb; exact ⟨c, c1⟩) (fun hb ⟨c, hcc⟩ => z5 hb c hcc) (fun hb => by obtain ⟨c, c1, -⟩ := a3 hb; exact ⟨c, c1.1⟩) (fun hb ⟨c, hcc⟩ => a4 hb c hcc)
    rw [x1, bd_s, y1, bd_s, z1, bd_s, a1, bd_s, e]
    dsimp only
    exact rr_ite Iff.rfl (fun _ => rr_ret ⟨rfl, Rel.scr hc z2 a2 z3⟩) (fun _ => rr_ret ⟨rfl, Rel.scr hc z2 a2 z3⟩)
/-- the first one, on both sides -/
theorem fst_rr {N : Nat} (hN : 2000 ≤ N) {G : Gr} {z : Int32} {ls : Nat → Int64} {Mx Mm : Mem} (hc : Cmp G z ls Mx Mm) {p q li : Nat} (hp1 : 1 ≤ p) (hp : p ≤ 40) (hq1 : 1 ≤ q) (hq : q ≤ 6) (hli : li ≤ 1) : ∃ b Z A, f_X7_findFirst N (nI p) (nI q) (nI li) Mx = some (bB b, Z) ∧ f_X8_colours N (nI p) (nI q) (nI li) Mm = some (bB b, A) ∧ Cmp G z ls Z A ∧ (b = true → ∃ c : Nat → Nat, (∀ i, i < gP G → c i < p) ∧ ∀ i, i < gP G → Z.1 27 i = nI (c i) ∧ A.1 7 i = nI (c i)) := by
  obtain ⟨X, Y, b, Z, x1, y1, z1, z2, z3, z4, z5⟩ := clsX (N := N) hN hc (p := p) (q := q) (li := li) hp hq1 hq hli 1
  obtain ⟨b', A, a1, a2, -, -, a3, a4⟩ := refC (N := N) hN hc (p := p) (q := q) (li := li) hp1 hp hq hli
  have e : b = b' := b_eq (P := ∃ c, Col G p q (plc ls li) c) (fun hb => by obtain ⟨c, c1, -⟩ := z4 hb; exact ⟨c, c1⟩) (fun hb ⟨c, hcc⟩ => z5 hb c hcc) (fun hb => by obtain ⟨c, c1, -⟩ := a3 hb; exact ⟨c, c1.1⟩) (fun hb ⟨c, hcc⟩ => a4 hb c hcc)
  subst e
  unfold f_X7_findFirst
  rw [x1, bd_s, y1, bd_s, z1, bd_s]
  dsimp only
  rw [ck_t (by cases b <;> decide)]
  refine ⟨b, Z, A, rfl, a1, Cmp_scr hc z2 a2 z3, fun hb => ?_⟩
  obtain ⟨c, c1, c2⟩ := z4 hb
  obtain ⟨c3, c4⟩ := c2 (by decide)
  obtain ⟨d, d1, d2⟩ := a3 hb
  exact ⟨c, fun i hi => (c1.1 i hi).1, fun i hi => ⟨c4 i hi, by rw [c3.uq d1 i hi]; exact d2 i hi⟩⟩
theorem s_8 {N : Nat} (hN : 2000 ≤ N) : St_8 N Rel := by
  intro Mx Mm a0 a1 a2 a3 h
  apply rr_st
  obtain ⟨G, z, ls, hc⟩ := id h
  have hP := hc.1.1
  unfold f_X7_place f_X8_place
  simp only [jn_e]
  rcases msr_rr (N := N) (Mx := Mx) (Mm := Mm) a0 a1 a2 with ⟨e1, e2⟩ | ⟨e1, e2, p, q, li, hp1, hp, hq1, hq, hli, rfl, rfl, rfl⟩
  · rw [e1, e2, bd_s, bd_s, if_pos rfl, if_pos rfl]; exact rr_ret ⟨rfl, h⟩
  · rw [e1, e2, bd_s, bd_s, if_neg (by decide), if_neg (by decide), ptX, ptM hc.2.2.1.1 hP, bd_s, bd_s, ite_bI, ite_bI, hc.2.1.1]
    refine rr_ite Iff.rfl (fun hv => ?_) (fun _ => rr_ret ⟨rfl, h⟩)
    obtain ⟨k, hk, rfl⟩ := nI_of_lt (by omega) hv
    obtain ⟨b, Z, A, z1, a1, hC, hb⟩ := fst_rr (N := N) hN hc (p := p) (q := q) (li := li) hp1 hp hq1 hq hli
    rw [z1, a1, bd_s, bd_s]
    dsimp only
    cases hbb : b
    · rw [if_pos (show bB false = 0 from rfl), if_pos (show bB false = 0 from rfl)]
      exact rr_ret ⟨rfl, G, z, ls, hC⟩
    · obtain ⟨c, c1, c2⟩ := hb hbb
      rw [if_neg (show ¬ bB true = 0 by decide), if_neg (show ¬ bB true = 0 by decide), ck_t (inb_nI (by omega) (by decide)), ck_t (inb_nI (by omega) (by decide)), nI_clamp (by omega), (c2 k hk).1, (c2 k hk).2]
      exact rr_ret ⟨rfl, G, z, ls, hC⟩
theorem s_40 {N : Nat} (hN : 2000 ≤ N) : St_40 N Rel := by
  intro Mx Mm a0 a1 a2 a3 h
  apply rr_st
  obtain ⟨G, z, ls, hc⟩ := id h
  have hP := hc.1.1
  unfold f_X7_paint f_X8_paint
  rw [isShX, isShM, bd_s, bd_s, ite_bI, ite_bI]
  refine rr_ite Iff.rfl (fun hv => ?_) (fun _ => rr_ret ⟨rfl, h⟩)
  obtain ⟨t, ht, rfl⟩ := nI_of_le 3 (by decide) hv
  rcases msr_rr (N := N) (Mx := Mx) (Mm := Mm) a1 a2 a3 with ⟨e1, e2⟩ | ⟨e1, e2, p, q, li, hp1, hp, hq1, hq, hli, rfl, rfl, rfl⟩
  · rw [e1, e2, bd_s, bd_s, if_pos rfl, if_pos rfl]; exact rr_ret ⟨rfl, h⟩
  · rw [e1, e2, bd_s, bd_s, if_neg (by decide), if_neg (by decide)]
    obtain ⟨b, Z, A, z1, a1, hC, hb⟩ := fst_rr (N := N) hN hc (p := p) (q := q) (li := li) hp1 hp hq1 hq hli
    rw [z1, a1, bd_s, bd_s]
    dsimp only
    cases hbb : b
    · rw [if_pos (show bB false = 0 from rfl), if_pos (show bB false = 0 from rfl)]
      exact rr_ret ⟨rfl, G, z, ls, hC⟩
    · obtain ⟨c, c1, c2⟩ := hb hbb
      have hXZ := hC.2.1
      have hMA := hC.2.2.1
      have t4 : inb (nI t) 4 := inb_nI (by omega) (by decide)
      have ct : (nI t).toNatClampNeg = t := nI_clamp (by omega)
      have hM1 : f_X8_lays N (nI t) 1 A = some (lyM (setI (setI A 20 t 0) 21 t (nI (gP G))) 22 (40 * t) 40 (fun k => if k < gP G then plJ c 1 k else 0)) := laysM (v := c) (d := 1) hN ht (by omega) hP hMA.1 (fun i hi => ⟨(c2 i hi).2, by have := c1 i hi; omega⟩)
      rw [if_neg (show ¬ bB true = 0 by decide), if_neg (show ¬ bB true = 0 by decide), hM1, bd_s, hXZ.1]
      have m00 : (lyM (setI (setI A 20 t 0) 21 t (nI (gP G))) 22 (40 * t) 40 (fun k => if k < gP G then plJ c 1 k else 0)).1 0 0 = nI (gP G) := by
        show (setI (setI A 20 t 0) 21 t (nI (gP G))).1 0 0 = _
        rw [setI_o (by decide), setI_o (by decide)]; exact hMA.1
      rw [m00]
      unfold f_X5_begin
      simp only [ck_t t4, ct, nm_e1, fillJ_e _ _ _ _ hN (show 40 ≤ 1024 by omega), bd_s]
      obtain ⟨W, hW⟩ : ∃ W, W = segJ (setI (setI Z (sheetC t) 0 0) (sheetC t) 1 (nI (gP G))) (sheetC t + 1) 0 40 0 := ⟨_, rfl⟩
      rw [← hW]
      have sc0 : sheetC t = 40 + 2 * t := rfl
      have sc1 : sheetC t + 1 = 41 + 2 * t := by unfold sheetC; omega
      have W1 : ∀ a, a ≠ sheetC t → W.1 a = Z.1 a := fun a ha => by
        rw [hW]; show (setI (setI Z (sheetC t) 0 0) (sheetC t) 1 (nI (gP G))).1 a = _
        rw [setI_o ha, setI_o ha]
      have W2 : ∀ a, a ≠ sheetC t + 1 → W.2 a = Z.2 a := fun a ha => by
        rw [hW]; funext b; show (if _ then _ else _) = _; rw [if_neg (fun q => ha q.1)]; rfl
      have hX2 : lp (fun (k53 : (Int32 × Mem) → Option (Int32 × Mem)) (a53 : Int32 × Mem) => if (a53.2.1 1 0) ≤ a53.1 then (some ((a53.2.1 1 0), a53.2)) else (ck (inb a53.1 6) (ck (inb a53.1 40) (k53 (a53.1 + (1 : Int32), setJ a53.2 ((sheetC t) + 1) a53.1.toNatClampNeg ((a53.2.1 27 a53.1.toNatClampNeg).toInt64)))))) N ((0 : Int32), W) = some (nI (gP G), lyM W (sheetC t + 1) 0 (gP G) (plJ c 1)) := by
        refine lp_cnt (gP G) (fun i a => a = (nI i, lyM W (sheetC t + 1) 0 i (plJ c 1))) (fun i a rc hi hI => Or.inr ?_) (fun a rc hI => ?_) N 0 _ (by omega) (by rw [lyM_0]; rfl) (by omega)
        · subst hI
          refine ⟨(nI (i + 1), lyM W (sheetC t + 1) 0 (i + 1) (plJ c 1)), rfl, ?_⟩
          have e0 : (lyM W (sheetC t + 1) 0 i (plJ c 1)).1 1 0 = nI (gP G) := by show W.1 1 0 = _; rw [W1 1 (by omega)]; exact hXZ.1
          have e27 : (lyM W (sheetC t + 1) 0 i (plJ c 1)).1 27 i = nI (c i) := by show W.1 27 i = _; rw [W1 27 (by omega)]; exact (c2 i hi).1
          have e3 := lyM_s W (sheetC t + 1) 0 i (plJ c 1)
          rw [Nat.zero_add] at e3
          have ep : plJ c 1 i = (nI (c i)).toInt64 := by unfold plJ; rw [Nat.div_one]
          dsimp only
          rw [e0, if_neg (nI_ge hi (by omega)), ck_t (inb_nI (by omega) (by decide)), ck_t (inb_nI (by omega) (by decide)), nI_clamp (by omega), e27, nI_1, ← ep, e3]
        · subst hI
          have e0 : (lyM W (sheetC t + 1) 0 (gP G) (plJ c 1)).1 1 0 = nI (gP G) := by show W.1 1 0 = _; rw [W1 1 (by omega)]; exact hXZ.1
          dsimp only
          rw [e0, if_pos (nI_le (a := gP G) (b := gP G) (Nat.le_refl _) (by omega))]
      rw [hX2]
      have fin : Cmp G z ls (lyM W (sheetC t + 1) 0 (gP G) (plJ c 1)) (lyM (setI (setI A 20 t 0) 21 t (nI (gP G))) 22 (40 * t) 40 (fun k => if k < gP G then plJ c 1 k else 0)) := by
        refine She_lay hC ht (fun a h1 h2 => ⟨?_, ?_⟩) ?_ ?_ ?_ ?_ (fun i hi => ?_)
        · exact W1 a (by omega)
        · funext b; show (if _ then _ else _) = _; rw [if_neg (by omega), W2 a (by omega)]
        · funext b; show (if _ then _ else _) = _; rw [if_neg (by omega), W2 _ (by omega)]
        · exact W1 _ (by omega)
        · show W.1 _ 0 = 0; rw [hW, ← sc0]; simp [segJ, setI_1]
        · show W.1 _ 1 = _; rw [hW, ← sc0]; simp [segJ, setI_1]
        · show (if _ then _ else _) = (if _ then _ else _)
          rw [if_pos (by omega), if_pos hi, Nat.sub_zero]
      exact rr_ret ⟨rfl, G, z, ls, fin⟩
