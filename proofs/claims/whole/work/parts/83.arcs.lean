/-! lines that are tight -/
def tcd (G : Gr) (v : Nat → Nat) (p q : Nat) (up : Bool) (l : Nat) : Bool := decide ((v (if up then gA G l else gB G l) + q * gG G l) % p = v (if up then gB G l else gA G l))
def tms (G : Gr) (v : Nat → Nat) (p q : Nat) (up : Bool) : Nat → Nat
  | 0 => 0
  | l + 1 => tms G v p q up l + (if tcd G v p q up l then 2 ^ l else 0)
theorem tms_lt {G : Gr} {v : Nat → Nat} {p q : Nat} {up : Bool} : ∀ n, tms G v p q up n < 2 ^ n
  | 0 => by show 0 < 1; omega
  | n + 1 => by
    have := tms_lt (G := G) (v := v) (p := p) (q := q) (up := up) n
    show tms G v p q up n + (if tcd G v p q up n then 2 ^ n else 0) < _
    rw [Nat.pow_succ]
    generalize 2 ^ n = t at *
    split <;> omega
theorem tgX {N : Nat} (hN : 2000 ≤ N) {G : Gr} {z : Int32} {ls : Nat → Int64} {M : Mem} {v : Nat → Nat} {p q c1 : Nat} (hG : GrOk G) (h : NetX M 1 G z ls) (hp : 1 ≤ p ∧ p ≤ 40) (hq : q ≤ 6) (hv : ∀ i, i < gP G → (M.2 (c1 + 1) i).toInt = v i ∧ v i < p) (up : Bool) : f_X7_tightLines N c1 (nI p) (nI q) (bB up) M = some (nI (tms G v p q up (gN G))) := by
  have hn := hG.2.1
  have hP := hG.1
  unfold f_X7_tightLines
  refine lp_cnt (gN G) (fun i a => a = (nI (tms G v p q up i), nI i)) (fun i a rc hi hI => Or.inr ?_) (fun a rc hI => ?_) N 0 _ (by omega) rfl (by omega)
  · subst hI
    refine ⟨(nI (tms G v p q up (i + 1)), nI (i + 1)), rfl, ?_⟩
    obtain ⟨k1, k2, k3, k4⟩ := h.2.2.2.1 i hi
    have k3 : M.1 4 i = nI (gA G i) := k3
    have k4 : M.1 5 i = nI (gB G i) := k4
    obtain ⟨o1, o2, o3, o4, o5⟩ := hG.2.2.1 i hi
    have hg := gG_in hG hi
    have hqg : q * gG G i ≤ 6 * 5 := Nat.mul_le_mul hq hg.2
    have hi10 : inb (nI i) 10 := inb_nI (by omega) (by decide)
    have hcl : (nI i).toNatClampNeg = i := nI_clamp (by omega)
    have fr : (if bB up = 0 then nI (gB G i) else nI (gA G i)) = nI (if up then gA G i else gB G i) := by cases up <;> rfl
    have to : (if bB up = 0 then nI (gA G i) else nI (gB G i)) = nI (if up then gB G i else gA G i) := by cases up <;> rfl
    have hf : (if up then gA G i else gB G i) < gP G := by cases up <;> simp <;> omega
    have ht : (if up then gB G i else gA G i) < gP G := by cases up <;> simp <;> omega
    dsimp only
    rw [h.2.1, if_neg (nI_ge hi (by omega)), if_neg (show ¬ nI p ≤ 0 from nI_nle (by omega) (by omega))]
    simp only [ck_t hi10, hcl, k3, k4]
    rw [jn_if, fr]
    simp only [jn_if, to]
    have cdec : tcd G v p q up i = decide ((v (if up then gA G i else gB G i) + q * gG G i) % p = v (if up then gB G i else gA G i)) := rfl
    generalize (if up then gA G i else gB G i) = x at *
    generalize (if up then gB G i else gA G i) = y at *
    have x40 : inb (nI x) 40 := inb_nI (by omega) (by decide)
    have y40 : inb (nI y) 40 := inb_nI (by omega) (by decide)
    have hclx : (nI x).toNatClampNeg = x := nI_clamp (by omega)
    have hcly : (nI y).toNatClampNeg = y := nI_clamp (by omega)
    have ep : (nI p).toInt64.toInt = p := by rw [w_toInt, nI_toInt (by omega)]
    have pn : ¬ (nI p).toInt64 = 0 := fun z => by have := (j0 _).mp z; rw [ep] at this; omega
    simp only [ck_t x40, ck_t y40, hclx, hcly, nm_e1, gapX hG h hi, bd_s, ck_t pn, pk_mul, nI_1]
    have hx := hv x hf
    have hy := hv y ht
    have es : (M.2 (c1 + 1) x + (nI (q * gG G i)).toInt64).toInt = ((v x + q * gG G i : Nat) : Int) := by
      rw [jt_add, hx.1, w_toInt, nI_toInt (by omega), bm64 (by omega) (by omega)]; omega
    have hr : lg_cmp (M.2 (c1 + 1) x + (nI (q * gG G i)).toInt64 - (M.2 (c1 + 1) x + (nI (q * gG G i)).toInt64) / (nI p).toInt64 * (nI p).toInt64) (M.2 (c1 + 1) y) = 0 ↔ (v x + q * gG G i) % p = v y := by
      rw [lg_eq, j_eq, jt_rem, es, ep, hy.1, ← Int.ofNat_tmod]
      omega
    rw [jn_if]
    show rc (if _ then _ else _, _) = rc (nI (tms G v p q up i + (if tcd G v p q up i then 2 ^ i else 0)), _)
    by_cases c : (v x + q * gG G i) % p = v y
    · rw [if_pos (hr.mpr c), cdec, decide_eq_true c, orbit (tms_lt i) (by omega)]; rfl
    · rw [if_neg (fun z => c (hr.mp z)), cdec, decide_eq_false c]; rfl
  · subst hI
    dsimp only
    rw [h.2.1, if_pos (nI_le (a := gN G) (b := gN G) (Nat.le_refl _) (by omega))]
theorem tgM {N : Nat} (hN : 2000 ≤ N) {G : Gr} {z : Int32} {ls : Nat → Int64} {M : Mem} {v : Nat → Nat} {p q : Nat} (hG : GrOk G) (h : NetM M G z ls) (hw : M.1 0 8 = -1) (hp : 1 ≤ p ∧ p ≤ 40) (hq : q ≤ 6) (hPl : PlM M G v p q) (up : Bool) : f_X8_tightLines N (bB (!up)) M = some (nI (tms G v p q up (gN G))) := by
  have hn := hG.2.1
  have hP := hG.1
  obtain ⟨l1, l2, l3, -⟩ := hPl
  unfold f_X8_tightLines
  refine lp_cnt (gN G) (fun i a => a = (nI (tms G v p q up i), nI i)) (fun i a rc hi hI => Or.inr ?_) (fun a rc hI => ?_) N 0 _ (by omega) rfl (by omega)
  · subst hI
    refine ⟨(nI (tms G v p q up (i + 1)), nI (i + 1)), rfl, ?_⟩
    obtain ⟨k1, k2, k3, k4⟩ := h.2.2.2.1 i hi
    obtain ⟨o1, o2, o3, o4, o5⟩ := hG.2.2.1 i hi
    have hg := gG_in hG hi
    have hqg : q * gG G i ≤ 6 * 5 := Nat.mul_le_mul hq hg.2
    have hi10 : inb (nI i) 10 := inb_nI (by omega) (by decide)
    have hcl : (nI i).toNatClampNeg = i := nI_clamp (by omega)
    have fr : (if bB (!up) = 1 then nI (gB G i) else nI (gA G i)) = nI (if up then gA G i else gB G i) := by cases up <;> rfl
    have to : (if bB (!up) = 1 then nI (gA G i) else nI (gB G i)) = nI (if up then gB G i else gA G i) := by cases up <;> rfl
    have hf : (if up then gA G i else gB G i) < gP G := by cases up <;> simp <;> omega
    have ht : (if up then gB G i else gA G i) < gP G := by cases up <;> simp <;> omega
    dsimp only
    rw [h.2.1, if_neg (nI_ge hi (by omega))]
    simp only [ck_t hi10, hcl, k3, k4]
    rw [jn_if, fr]
    simp only [jn_if, to]
    have cdec : tcd G v p q up i = decide ((v (if up then gA G i else gB G i) + q * gG G i) % p = v (if up then gB G i else gA G i)) := rfl
    generalize (if up then gA G i else gB G i) = x at *
    generalize (if up then gB G i else gA G i) = y at *
    have x6 : inb (nI x) 6 := inb_nI (by omega) (by decide)
    have y6 : inb (nI y) 6 := inb_nI (by omega) (by decide)
    have hclx : (nI x).toNatClampNeg = x := nI_clamp (by omega)
    have hcly : (nI y).toNatClampNeg = y := nI_clamp (by omega)
    have pn : ¬ nI p = 0 := nI_ne (b := 0) (by omega) (by decide) (by omega)
    have hx := l3 x hf
    have hy := l3 y ht
    simp only [ck_t x6, ck_t y6, hclx, hcly, nm_e1, gapM hG h hw hi, bd_s, l1, l2, ck_t pn, pk_mul, nI_1, hx.1, hy.1, nI_add]
    rw [pk_rem (by omega) (by omega) (by omega)]
    have hr : nI ((v x + q * gG G i) % p) = nI (v y) ↔ (v x + q * gG G i) % p = v y := by
      have : (v x + q * gG G i) % p < p := Nat.mod_lt _ (by omega)
      exact nI_eq (by omega) (by omega)
    show rc (nI (tms G v p q up i) ||| (if _ then _ else _), _) = rc (nI (tms G v p q up i + (if tcd G v p q up i then 2 ^ i else 0)), _)
    by_cases c : (v x + q * gG G i) % p = v y
    · rw [if_pos (hr.mpr c), cdec, decide_eq_true c, orbit (tms_lt i) (by omega)]; rfl
    · rw [if_neg (fun z => c (hr.mp z)), cdec, decide_eq_false c]
      rw [show (0 : Int32) = nI 0 from rfl, nI_or, Nat.or_zero]; rfl
  · subst hI
    dsimp only
    rw [h.2.1, if_pos (nI_le (a := gN G) (b := gN G) (Nat.le_refl _) (by omega))]
/-- a told colouring, on both sides -/
theorem col_rr {N : Nat} (hN : 2000 ≤ N) {G : Gr} {z : Int32} {ls : Nat → Int64} {Mx Mm : Mem} (hc : Cmp G z ls Mx Mm) (a0 a1 a2 : Int32) : ∃ r Mm', f_X7_refusalOfColouring N a0 a1 a2 Mx = some r ∧ f_X8_wrongColouring N a0 a1 a2 Mm = some (r, Mm') ∧ Cmp G z ls Mx Mm' ∧ (r < 0 ∨ r = 0 ∧ ∃ s p q n v, s ≤ 3 ∧ (1 ≤ p ∧ p ≤ 40) ∧ (1 ≤ q ∧ q ≤ 6) ∧ gP G ≤ n ∧ n ≤ 40 ∧ a0 = nI s ∧ a1 = nI p ∧ a2 = nI q ∧ PlM Mm' G v p q ∧ (∀ i, i < gP G → (Mx.2 (sheetC s + 1) i).toInt = v i)) := by
  unfold f_X7_refusalOfColouring f_X8_wrongColouring
  obtain ⟨r, r1, r2, r3⟩ := ref_rr (N := N) hc a0 a1 a2
  rw [r1, r2, bd_s, bd_s]
  rcases r3 with r3 | ⟨rfl, s, p, q, n, hs, hp, hq, hn, hn40, rfl, rfl, rfl, hS⟩
  · rw [if_neg (i_neg r3).1, if_neg (i_neg r3).2]; exact ⟨_, _, rfl, rfl, hc, Or.inl r3⟩
  · have s4 : inb (nI s) 4 := inb_nI (by omega) (by decide)
    have cs : (nI s).toNatClampNeg = s := nI_clamp (by omega)
    rw [if_pos (by decide), if_pos rfl, ck_t s4, cs]
    obtain ⟨u, ⟨w, M'⟩, e1, e2, e3, e4, e5⟩ := fw_rr (N := N) hN hc hs hp hq.2 hn hn40 hS
    rw [e1, e2, bd_s, bd_s]
    have e3 : u = w := e3
    subst e3
    have hc' : Cmp G z ls Mx M' := by
      obtain ⟨g1, g2, g3, g4, g5, g6, g7, g8, g9⟩ := hc
      obtain ⟨m1, m2, m3, m4, m5⟩ := e4
      exact ⟨g1, g2, g3.ag (fun j hj => m1 j (by omega)) (fun a h1 h2 => m2 a (by omega)), by rw [m1 8 (by omega)]; exact g4, g5, g6.ag rfl (m1 43 (by omega)) (fun a h1 h2 => ⟨rfl, rfl⟩) m3 m4 m5, fun h hh => (g7 h hh).ag ⟨rfl, rfl⟩ (fun a h1 h2 => by rw [(m2 a (by omega)).1, (m2 a (by omega)).2]; exact ⟨rfl, rfl⟩), fun s hs => (g8 s hs).ag ⟨rfl, rfl⟩ (by rw [(m2 20 (by omega)).1]) (by rw [(m2 21 (by omega)).1]) (fun i _ => by rw [(m2 22 (by omega)).2]), g9.ag rfl rfl (m1 31 (by omega)) (m2 18 (by omega)).1⟩
    dsimp only
    rcases e5 with ⟨e5, e6, e7⟩ | e5
    · rw [if_pos e5, if_pos e5]
      exact ⟨_, _, rfl, rfl, hc', Or.inr ⟨rfl, s, p, q, n, _, hs, hp, hq, hn, hn40, rfl, rfl, rfl, e6, e7⟩⟩
    · have : ¬ u = -1 := fun q => by rw [q] at e5; exact absurd e5 (by decide)
      rw [if_neg this, if_neg this]
      exact ⟨_, _, rfl, rfl, hc', Or.inl (by decide)⟩
theorem tms_lt' {G : Gr} (hG : GrOk G) {v : Nat → Nat} {p q : Nat} {up : Bool} : tms G v p q up (gN G) < 1024 :=
  Nat.lt_of_lt_of_le (tms_lt _) (Nat.pow_le_pow_right (by omega) hG.2.1 : 2 ^ gN G ≤ 2 ^ 10)
theorem s_22 {N : Nat} (hN : 2000 ≤ N) : St_22 N Rel := by
  intro Mx Mm a0 a1 a2 h
  obtain ⟨G, z, ls, hc⟩ := id h
  unfold f_X7_arcs f_X8_arcs
  obtain ⟨r, Mm', r1, r2, hc', r3⟩ := col_rr hN hc a0 a1 a2
  rw [r1, r2, bd_s, bd_s]
  dsimp only
  rcases r3 with r3 | ⟨rfl, s, p, q, n, v, hs, hp, hq, hn, hn40, rfl, rfl, rfl, hPl, hv⟩
  · rw [if_neg (i_neg r3).1, if_neg (i_neg r3).2]; exact ⟨_, _, rfl, rfl, G, z, ls, hc'⟩
  · obtain ⟨hG, hX, hM, hw, -⟩ := id hc'
    have s4 : inb (nI s) 4 := inb_nI (by omega) (by decide)
    have cs : (nI s).toNatClampNeg = s := nI_clamp (by omega)
    have hv' : ∀ i, i < gP G → (Mx.2 (sheetC s + 1) i).toInt = v i ∧ v i < p := fun i hi => ⟨hv i hi, (hPl.2.2.1 i hi).2⟩
    rw [if_pos (by decide), if_pos rfl]
    simp only [ck_t s4, cs]
    rw [show (1 : Int32) = bB true from rfl, tgX hN hG hX hp hq.2 hv' true, bd_s, bcX (tms_lt' hG), bd_s, show (0 : Int32) = bB (!true) from rfl, tgM hN hG hM hw hp hq.2 hPl true, bd_s, btM1 hN (tms_lt' hG), bd_s, show bB true = bB (!false) from rfl, tgM hN hG hM hw hp hq.2 hPl false, bd_s, btM1 hN (tms_lt' hG), bd_s, show bB (!true) = bB false from rfl, tgX hN hG hX hp hq.2 hv' false, bd_s, bcX (tms_lt' hG), bd_s]
    exact ⟨_, _, rfl, rfl, G, z, ls, hc'⟩
