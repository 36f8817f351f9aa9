def Rel (Mx Mm : Mem) : Prop := ∃ (G : Gr) (z : Int32) (ls : Nat → Int64), GrOk G ∧ NetX Mx 1 G z ls ∧ NetM Mm G z ls ∧ Mm.1 0 8 = -1 ∧ Bk Mx G ∧ Img Mx Mm ∧ Hol Mx Mm ∧ She Mx Mm ∧ Tap Mx Mm
theorem NetX.ag {M M' : Mem} {c : Nat} {G : Gr} {z : Int32} {ls : Nat → Int64} (h : NetX M c G z ls) (ha : ∀ a, c ≤ a → a ≤ c + 5 → M'.1 a = M.1 a ∧ M'.2 a = M.2 a) : NetX M' c G z ls := by
  unfold NetX at *
  rw [(ha c (by omega) (by omega)).1, (ha (c + 1) (by omega) (by omega)).1, (ha (c + 2) (by omega) (by omega)).1, (ha (c + 3) (by omega) (by omega)).1, (ha (c + 4) (by omega) (by omega)).1, (ha (c + 5) (by omega) (by omega)).2]
  exact h
theorem NetM.ag {M M' : Mem} {G : Gr} {z : Int32} {ls : Nat → Int64} (h : NetM M G z ls) (h0 : ∀ j, j < 3 → M'.1 0 j = M.1 0 j) (ha : ∀ a, 1 ≤ a → a ≤ 5 → M'.1 a = M.1 a ∧ M'.2 a = M.2 a) : NetM M' G z ls := by
  unfold NetM at *
  rw [h0 0 (by omega), h0 1 (by omega), h0 2 (by omega), (ha 1 (by omega) (by omega)).1, (ha 2 (by omega) (by omega)).1, (ha 3 (by omega) (by omega)).1, (ha 4 (by omega) (by omega)).1, (ha 5 (by omega) (by omega)).2]
  exact h
theorem KeptM.ag {M M' : Mem} {k : Nat} {G : Gr} {z : Int32} {ls : Nat → Int64} (h : KeptM M k G z ls) (h0 : ∀ j, 3 * k ≤ j → j < 3 * k + 3 → M'.1 23 j = M.1 23 j) (h1 : ∀ j, 40 * k ≤ j → j < 40 * k + 40 → M'.1 24 j = M.1 24 j) (h2 : ∀ j, 6 * k ≤ j → j < 6 * k + 6 → M'.2 25 j = M.2 25 j) (hG : GrOk G) : KeptM M' k G z ls := by
  obtain ⟨a, b, c, d, e⟩ := h
  obtain ⟨hp, hn, -⟩ := hG
  refine ⟨by rw [h0 _ (by omega) (by omega)]; exact a, by rw [h0 _ (by omega) (by omega)]; exact b, by rw [h0 _ (by omega) (by omega)]; exact c, fun l hl => ?_, fun p hpp => by rw [h2 _ (by omega) (by omega)]; exact e p hpp⟩
  obtain ⟨d1, d2, d3, d4⟩ := d l hl
  exact ⟨by rw [h1 _ (by omega) (by omega)]; exact d1, by rw [h1 _ (by omega) (by omega)]; exact d2, by rw [h1 _ (by omega) (by omega)]; exact d3, by rw [h1 _ (by omega) (by omega)]; exact d4⟩
theorem Img.ag {Mx Mm Mx' Mm' : Mem} (h : Img Mx Mm) (hx : Mx'.1 0 3 = Mx.1 0 3) (hm : Mm'.1 0 43 = Mm.1 0 43) (ha : ∀ a, 7 ≤ a → a ≤ 12 → Mx'.1 a = Mx.1 a ∧ Mx'.2 a = Mx.2 a) (h0 : ∀ j, j < 3 → Mm'.1 23 j = Mm.1 23 j) (h1 : ∀ j, j < 40 → Mm'.1 24 j = Mm.1 24 j) (h2 : ∀ j, j < 6 → Mm'.2 25 j = Mm.2 25 j) : Img Mx' Mm' := by
  obtain ⟨a, b⟩ := h
  refine ⟨by rw [hx, hm]; exact a, ?_⟩
  rw [hm]
  rcases b with b | ⟨b, G, z, ls, g1, g2, g3⟩
  · exact Or.inl b
  · exact Or.inr ⟨b, G, z, ls, g1, g2.ag (fun q q1 q2 => ha q q1 (by omega)), g3.ag (fun j _ hj => h0 j (by omega)) (fun j _ hj => h1 j (by omega)) (fun j _ hj => h2 j (by omega)) g1⟩
theorem HolOk.ag {Mx Mm Mx' Mm' : Mem} {h : Nat} (hh : HolOk Mx Mm h) (hx : Mx'.1 (35 + h) = Mx.1 (35 + h) ∧ Mx'.2 (35 + h) = Mx.2 (35 + h)) (hm : ∀ a, 11 ≤ a → a ≤ 17 → Mm'.1 a h = Mm.1 a h ∧ Mm'.2 a h = Mm.2 a h) : HolOk Mx' Mm' h := by
  unfold HolOk at *
  rw [hx.1, hx.2, (hm 11 (by omega) (by omega)).1, (hm 12 (by omega) (by omega)).1, (hm 13 (by omega) (by omega)).1, (hm 14 (by omega) (by omega)).1, (hm 15 (by omega) (by omega)).2, (hm 16 (by omega) (by omega)).2, (hm 17 (by omega) (by omega)).2]
  exact hh
theorem SheOk.ag {Mx Mm Mx' Mm' : Mem} {s : Nat} (hh : SheOk Mx Mm s) (hx : Mx'.1 (40 + 2 * s) = Mx.1 (40 + 2 * s) ∧ Mx'.2 (41 + 2 * s) = Mx.2 (41 + 2 * s)) (h1 : Mm'.1 20 s = Mm.1 20 s) (h2 : Mm'.1 21 s = Mm.1 21 s) (h3 : ∀ i, i < 40 → Mm'.2 22 (40 * s + i) = Mm.2 22 (40 * s + i)) : SheOk Mx' Mm' s := by
  obtain ⟨a, b⟩ := hh
  refine ⟨by rw [hx.1, h1]; exact a, ?_⟩
  rw [h1]
  rcases b with b | ⟨b, n, b1, b2, b3, b4⟩
  · exact Or.inl b
  · exact Or.inr ⟨b, n, b1, by rw [hx.1]; exact b2, by rw [h2]; exact b3, fun i hi => by rw [hx.2, h3 i (by omega)]; exact b4 i hi⟩
theorem Tap.ag {Mx Mm Mx' Mm' : Mem} (h : Tap Mx Mm) (hx : Mx'.1 31 0 = Mx.1 31 0) (hx2 : Mx'.1 32 = Mx.1 32) (hm : Mm'.1 0 31 = Mm.1 0 31) (hm2 : Mm'.1 18 = Mm.1 18) : Tap Mx' Mm' := by
  unfold Tap at *
  rw [hx, hx2, hm, hm2]
  exact h
/-- only the class's scratch has changed (and the book, said apart) -/
def ScrX (M M' : Mem) : Prop := M'.1 0 3 = M.1 0 3 ∧ M'.1 31 0 = M.1 31 0 ∧ ∀ a, (1 ≤ a ∧ a ≤ 12 ∨ a = 32 ∨ 35 ≤ a ∧ a ≤ 47) → M'.1 a = M.1 a ∧ M'.2 a = M.2 a
/-- only the reference's scratch has changed -/
def ScrM (M M' : Mem) : Prop := (∀ j, (j < 3 ∨ j = 8 ∨ j = 31 ∨ j = 43) → M'.1 0 j = M.1 0 j) ∧ (∀ a, (1 ≤ a ∧ a ≤ 5 ∨ 11 ≤ a ∧ a ≤ 18 ∨ 20 ≤ a ∧ a ≤ 22) → M'.1 a = M.1 a ∧ M'.2 a = M.2 a) ∧ (∀ j, j < 3 → M'.1 23 j = M.1 23 j) ∧ (∀ j, j < 40 → M'.1 24 j = M.1 24 j) ∧ ∀ j, j < 6 → M'.2 25 j = M.2 25 j
theorem ScrX.rf {M : Mem} : ScrX M M := ⟨rfl, rfl, fun _ _ => ⟨rfl, rfl⟩⟩
theorem ScrM.rf {M : Mem} : ScrM M M := ⟨fun _ _ => rfl, fun _ _ => ⟨rfl, rfl⟩, fun _ _ => rfl, fun _ _ => rfl, fun _ _ => rfl⟩
theorem ScrX.tr {M M' M'' : Mem} (h : ScrX M M') (h2 : ScrX M' M'') : ScrX M M'' := ⟨h2.1.trans h.1, h2.2.1.trans h.2.1, fun a ha => ⟨(h2.2.2 a ha).1.trans (h.2.2 a ha).1, (h2.2.2 a ha).2.trans (h.2.2 a ha).2⟩⟩
theorem ScrM.tr {M M' M'' : Mem} (h : ScrM M M') (h2 : ScrM M' M'') : ScrM M M'' := ⟨fun j hj => (h2.1 j hj).trans (h.1 j hj), fun a ha => ⟨(h2.2.1 a ha).1.trans (h.2.1 a ha).1, (h2.2.1 a ha).2.trans (h.2.1 a ha).2⟩, fun j hj => (h2.2.2.1 j hj).trans (h.2.2.1 j hj), fun j hj => (h2.2.2.2.1 j hj).trans (h.2.2.2.1 j hj), fun j hj => (h2.2.2.2.2 j hj).trans (h.2.2.2.2 j hj)⟩
/-- behind a question -/
theorem Rel.scr {Mx Mm Mx' Mm' : Mem} {G : Gr} {z : Int32} {ls : Nat → Int64} (h : GrOk G ∧ NetX Mx 1 G z ls ∧ NetM Mm G z ls ∧ Mm.1 0 8 = -1 ∧ Bk Mx G ∧ Img Mx Mm ∧ Hol Mx Mm ∧ She Mx Mm ∧ Tap Mx Mm) (hx : ScrX Mx Mx') (hm : ScrM Mm Mm') (hb : Bk Mx' G) : Rel Mx' Mm' := by
  obtain ⟨g1, g2, g3, g4, -, g6, g7, g8, g9⟩ := h
  obtain ⟨x1, x2, x3⟩ := hx
  obtain ⟨m1, m2, m3, m4, m5⟩ := hm
  exact ⟨G, z, ls, g1, g2.ag (fun a h1 h2 => x3 a (by omega)), g3.ag (fun j hj => m1 j (by omega)) (fun a h1 h2 => m2 a (by omega)), by rw [m1 8 (by omega)]; exact g4, hb, g6.ag x1 (m1 43 (by omega)) (fun a h1 h2 => x3 a (by omega)) m3 m4 m5, fun h hh => (g7 h hh).ag (x3 _ (by omega)) (fun a h1 h2 => by rw [(m2 a (by omega)).1, (m2 a (by omega)).2]; exact ⟨rfl, rfl⟩), fun s hs => (g8 s hs).ag ⟨(x3 _ (by omega)).1, (x3 _ (by omega)).2⟩ (by rw [(m2 20 (by omega)).1]) (by rw [(m2 21 (by omega)).1]) (fun i _ => by rw [(m2 22 (by omega)).2]), g9.ag x2 (x3 32 (by omega)).1 (m1 31 (by omega)) (m2 18 (by omega)).1⟩
