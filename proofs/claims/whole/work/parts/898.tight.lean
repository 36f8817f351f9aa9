/-! tight rings -/
theorem adn0 {a b : Nat} : adn a b = 0 ↔ ∀ l, a.testBit l = true → b.testBit l = true := by
  constructor
  · intro h l hl; exact adn_zero h hl
  · intro h
    refine Nat.eq_of_testBit_eq (fun i => ?_)
    rw [adn_tb, Nat.zero_testBit]
    cases c : a.testBit i
    · rfl
    · rw [h i c]; rfl
theorem nI0 {a : Nat} (h : a < 2 ^ 31) : nI a = 0 ↔ a = 0 := ⟨fun q => (nI_eq h (by omega)).mp q, fun q => by rw [q]; rfl⟩
/-- a way round along tight lines -/
def tgW (m a b : Nat) (U : Nat → Bool) : Prop := ∀ l, m.testBit l = true → (if U l then a.testBit l else b.testBit l) = true
def tgR (G : Gr) (m a b : Nat) : Prop := if cnt m.testBit (gN G) = 1 then (∀ l, m.testBit l = true → a.testBit l = true ∧ b.testBit l = true) else tgW m a b (dirR G m) ∨ tgW m b a (dirR G m)
theorem tgW_uq {G : Gr} (hG : GrOk G) {m a b : Nat} (hm : m < 2 ^ gN G) {U V : Nat → Bool} (h : Cyc G m.testBit U) (h' : Cyc G m.testBit V) : (tgW m a b U ∨ tgW m b a U) ↔ (tgW m a b V ∨ tgW m b a V) := by
  have hlt : ∀ l, m.testBit l = true → l < gN G := fun l hl => by
    rcases Nat.lt_or_ge l (gN G) with q | q
    · exact q
    · rw [tb_hi hm q] at hl; exact absurd hl (by decide)
  rcases h.uniq hG h' with q | q
  · have e : ∀ x y, tgW m x y U ↔ tgW m x y V := fun x y => by
      unfold tgW
      exact ⟨fun r l hl => by rw [← q l (hlt l hl) hl]; exact r l hl, fun r l hl => by rw [q l (hlt l hl) hl]; exact r l hl⟩
    rw [e, e]
  · have e : ∀ x y, tgW m x y U ↔ tgW m y x V := fun x y => by
      unfold tgW
      constructor
      · intro r l hl
        have := r l hl
        rw [q l (hlt l hl) hl] at this
        cases c : V l <;> rw [c] at this <;> simpa using this
      · intro r l hl
        have := r l hl
        rw [q l (hlt l hl) hl]
        cases c : V l <;> rw [c] at this <;> simpa using this
    rw [e, e]; exact Or.comm
theorem ltX {N : Nat} (hN : 2000 ≤ N) {G : Gr} {M : Mem} (hG : GrOk G) (h : RgX M G) {a b : Nat} (ha : a < 1024) (hb : b < 1024) : ∃ r, f_X4_leastTight N (nI a) (nI b) M = some r ∧ ((r = -1 ∧ ∀ i, i < rN G → ¬ tgR G (rS G i) a b) ∨ ∃ j, j < rN G ∧ r = nI j ∧ tgR G (rS G j) a b ∧ ∀ i, i < j → ¬ tgR G (rS G i) a b) := by
  have hRn := rN_le hG
  have hn := hG.2.1
  unfold f_X4_leastTight
  refine lp_S (S := fun o => ∃ r, o = some r ∧ ((r = -1 ∧ ∀ i, i < rN G → ¬ tgR G (rS G i) a b) ∨ ∃ j, j < rN G ∧ r = nI j ∧ tgR G (rS G j) a b ∧ ∀ i, i < j → ¬ tgR G (rS G i) a b)) (fun k (c : Int32) => ∃ i, i + k = rN G ∧ c = nI i ∧ ∀ j, j < i → ¬ tgR G (rS G j) a b) (fun k c rc hJ => ?_) N (rN G) _ ⟨0, by omega, rfl, fun j hj => absurd hj (Nat.not_lt_zero _)⟩ (by omega)
  obtain ⟨i, hk, rfl, hI⟩ := hJ
  rw [h.1]
  cases k with
  | zero =>
    left
    have e : i = rN G := by omega
    subst e
    rw [if_pos (nI_le (Nat.le_refl _) (by omega))]
    exact ⟨_, rfl, Or.inl ⟨rfl, hI⟩⟩
  | succ k =>
    have hi : i < rN G := by omega
    have hm := (rS_ok hi).1.2.1
    have hm10 := lt1024 hm hn
    have i64 : inb (nI i) 64 := inb_nI (by omega) (by decide)
    have ci : (nI i).toNatClampNeg = i := nI_clamp (by omega)
    obtain ⟨p1, -, p3, u, p4, hu, hd⟩ := h.2.2 i hi
    have hcb := cnt_bd (p := (rS G i).testBit) (gN G)
    have hu10 : u < 1024 := lt1024 (sub_lt hu hm) hn
    rw [if_neg (nI_ge hi (by omega))]
    simp only [jn_e, nm_e1, nI_1, ck_t i64, ci, p1, p3, p4, nI_andn]
    have l1 : ∀ x y, x < 1024 → (nI (adn x y) = 0 ↔ adn x y = 0) := fun x y hx => nI0 (by have := lt1024 (adn_lt (n := 10) (g := y) hx) (by omega); omega)
    have hdn : adn (rS G i) u < 1024 := adn_lt (n := 10) hm10
    simp only [l1 u a hu10, l1 u b hu10, l1 _ a hdn, l1 _ b hdn]
    have one : ∀ x y, (adn u x = 0 ∧ adn (adn (rS G i) u) y = 0) ↔ tgW (rS G i) x y u.testBit := fun x y => by
      rw [adn0, adn0]
      unfold tgW
      constructor
      · rintro ⟨r1, r2⟩ l hl
        cases c : u.testBit l
        · simp; exact r2 l (by rw [adn_tb, hl, c]; rfl)
        · simp; exact r1 l c
      · intro r
        refine ⟨fun l hl => ?_, fun l hl => ?_⟩
        · have := r l (hu l hl)
          rw [hl] at this
          simpa using this
        · rw [adn_tb] at hl
          simp at hl
          have := r l hl.1
          rw [hl.2] at this
          simpa using this
    have go : ¬ tgR G (rS G i) a b → ∃ m c, m < k + 1 ∧ (∃ i, i + m = rN G ∧ c = nI i ∧ ∀ j, j < i → ¬ tgR G (rS G j) a b) ∧ rc (nI (i + 1)) = rc c := fun q => ⟨k, _, by omega, ⟨i + 1, by omega, rfl, fun j hj => by
      by_cases e : j = i
      · rw [e]; exact q
      · exact hI j (by omega)⟩, rfl⟩
    have st : tgR G (rS G i) a b → ∃ r, some (nI i) = some r ∧ ((r = -1 ∧ ∀ i, i < rN G → ¬ tgR G (rS G i) a b) ∨ ∃ j, j < rN G ∧ r = nI j ∧ tgR G (rS G j) a b ∧ ∀ i, i < j → ¬ tgR G (rS G i) a b) := fun q => ⟨_, rfl, Or.inr ⟨i, hi, rfl, q, hI⟩⟩
    have hone := one a b
    have hoth := one b a
    by_cases c1 : cnt (rS G i).testBit (gN G) = 1
    · have hum : u = rS G i := by
        rcases hd with ⟨-, d2⟩ | d
        · exact d2
        · have := d.three hG; omega
      have hT : tgR G (rS G i) a b ↔ tgW (rS G i) a b u.testBit ∧ tgW (rS G i) b a u.testBit := by
        unfold tgR tgW
        rw [if_pos c1, hum]
        constructor
        · intro r; exact ⟨fun l hl => by rw [hl, if_pos rfl]; exact (r l hl).1, fun l hl => by rw [hl, if_pos rfl]; exact (r l hl).2⟩
        · rintro ⟨r1, r2⟩ l hl
          have e1 := r1 l hl
          have e2 := r2 l hl
          rw [hl, if_pos rfl] at e1 e2
          exact ⟨e1, e2⟩
      simp only [if_pos (show nI (cnt (rS G i).testBit (gN G)) = 1 by rw [c1]; rfl)]
      by_cases a1 : adn u a = 0 <;> by_cases a2 : adn (adn (rS G i) u) b = 0 <;> by_cases a3 : adn u b = 0 <;> by_cases a4 : adn (adn (rS G i) u) a = 0
      all_goals simp only [a1, a2, a3, a4, if_true, if_false, if_neg (show ¬ (1 : Int32) = 0 by decide)]
      all_goals first
        | (left; exact st (hT.mpr ⟨hone.mp ⟨a1, a2⟩, hoth.mp ⟨a3, a4⟩⟩))
        | (right; exact go (fun q => by have q1 := hone.mpr (hT.mp q).1; have q2 := hoth.mpr (hT.mp q).2; simp_all))
    · have hC : Cyc G (rS G i).testBit u.testBit := by
        rcases hd with ⟨d1, -⟩ | d
        · exact absurd d1 c1
        · exact d
      have hT : tgR G (rS G i) a b ↔ tgW (rS G i) a b u.testBit ∨ tgW (rS G i) b a u.testBit := by
        unfold tgR
        rw [if_neg c1]
        exact tgW_uq hG hm (dirR_c ⟨_, hC⟩) hC
      simp only [if_neg (show ¬ nI (cnt (rS G i).testBit (gN G)) = 1 from ne1 (by omega) c1)]
      by_cases a1 : adn u a = 0 <;> by_cases a2 : adn (adn (rS G i) u) b = 0 <;> by_cases a3 : adn u b = 0 <;> by_cases a4 : adn (adn (rS G i) u) a = 0
      all_goals simp only [a1, a2, a3, a4, if_true, if_false, if_neg (show ¬ (1 : Int32) = 0 by decide)]
      all_goals first
        | (left; exact st (hT.mpr (Or.inl (hone.mp ⟨a1, a2⟩))))
        | (left; exact st (hT.mpr (Or.inr (hoth.mp ⟨a3, a4⟩))))
        | (right; exact go (fun q => by rcases hT.mp q with q | q; have q1 := hone.mpr q; simp_all; have q1 := hoth.mpr q; simp_all))
theorem bnot_i (x : Int32) : x ^^^ (-1) = ~~~x := tb_inj (by
  rw [Int32.toBitVec_xor, Int32.toBitVec_not]
  show x.toBitVec ^^^ BitVec.allOnes 32 = _
  rw [BitVec.xor_allOnes])
/-- the reference's words: f, or not f -/
theorem sel_i {m f a b : Nat} (hm : m < 1024) (ha : a < 1024) (hb : b < 1024) (hf : ∀ l, f.testBit l = true → m.testBit l = true) : (nI m &&& (((nI f &&& nI a) ||| ((nI f ^^^ (-1)) &&& nI b)) ^^^ (-1)) = 0) ↔ ∀ l, m.testBit l = true → (if f.testBit l then a.testBit l else b.testBit l) = true := by
  have e1 : (nI f ^^^ (-1)) &&& nI b = nI (adn b f) := by rw [Int32.and_comm, nI_andn]
  rw [nI_and, e1, nI_or, nI_andn, nI0 (by have := lt1024 (adn_lt (n := 10) (g := (f &&& a) ||| adn b f) hm) (by omega); omega), adn0]
  constructor
  · intro r l hl
    have := r l hl
    rw [Nat.testBit_or, Nat.testBit_and, adn_tb] at this
    cases c : f.testBit l <;> rw [c] at this <;> simpa using this
  · intro r l hl
    have := r l hl
    rw [Nat.testBit_or, Nat.testBit_and, adn_tb]
    cases c : f.testBit l <;> rw [c] at this <;> simpa using this
theorem s_23 {N : Nat} (hN : 2000 ≤ N) : St_23 N Rel := by
  intro Mx Mm a0 a1 a2 a3 h
  apply rr_st
  obtain ⟨G, z, ls, hc0⟩ := id h
  unfold f_X7_tight f_X8_tight
  rw [within_e, inI_e N a3 0 1 Mm (by decide) (by decide), bd_s, bd_s]
  simp only [jn_e]
  rw [ite_bI, ite_bI]
  by_cases hv : 0 ≤ a3 ∧ a3 ≤ 1
  rotate_left
  · rw [if_neg hv, if_neg hv, if_neg (by decide)]; exact rr_ret ⟨rfl, h⟩
  rw [if_pos hv, if_pos hv]
  obtain ⟨r, Mm', r1, r2, hc, r3⟩ := col_rr (N := N) hN hc0 a0 a1 a2
  rw [r1, r2, bd_s, bd_s]
  dsimp only
  rcases r3 with r3 | ⟨rfl, s, p, q, n, v, hs, hp, hq, hnn, hn40, rfl, rfl, rfl, hPl, hvv⟩
  · rw [if_neg (i_neg r3).1, if_neg (i_neg r3).2]; exact rr_ret ⟨rfl, G, z, ls, hc⟩
  have hG := hc.1
  have hRn := rN_le hG
  have hn := hG.2.1
  have hw := hc.2.2.2.1
  have s4 : inb (nI s) 4 := inb_nI (by omega) (by decide)
  have cs : (nI s).toNatClampNeg = s := nI_clamp (by omega)
  obtain ⟨X, x1, x2, x3, x4, x5⟩ := fndX (N := N) hN hc
  obtain ⟨A, l1, l2, l3⟩ := laysRM (N := N) hN hG hRn hc.2.2.1
  have hMA := l2.net hc.2.2.1
  have hw8 : A.1 0 8 = -1 := by rw [l2.2.1 8 (by omega)]; exact hw
  have hWA : WdM A G (gG G) := ⟨⟨z, ls, hMA⟩, Or.inl ⟨hw8, rfl⟩⟩
  have hR := Rel.scr hc x2 l2.scr x4
  have hPA : PlM A G v p q := by
    obtain ⟨e1, e2, e3, e4⟩ := hPl
    exact ⟨by rw [l2.2.1 12 (by omega)]; exact e1, by rw [l2.2.1 13 (by omega)]; exact e2, fun i hi => by rw [l2.1 7 (by omega) (by omega) (by omega) (by omega)]; exact e3 i hi, e4⟩
  have hvX : ∀ i, i < gP G → (X.2 (sheetC s + 1) i).toInt = v i ∧ v i < p := fun i hi => ⟨by rw [(x2.2.2 (sheetC s + 1) (by unfold sheetC; omega)).2]; exact hvv i hi, (hPl.2.2.1 i hi).2⟩
  rw [if_pos (by decide), if_pos rfl, x1, l1, bd_s, bd_s]
  simp only [ck_t s4, cs]
  rw [show f_X7_tightLines N (sheetC s) (nI p) (nI q) 1 X = some (nI (tms G v p q true (gN G))) from tgX hN hG x5 hp hq.2 hvX true, bd_s, show f_X7_tightLines N (sheetC s) (nI p) (nI q) 0 X = some (nI (tms G v p q false (gN G))) from tgX hN hG x5 hp hq.2 hvX false, bd_s, show f_X8_tightLines N 0 A = some (nI (tms G v p q true (gN G))) from tgM hN hG hMA hw8 hp hq.2 hPA true, bd_s, show f_X8_tightLines N 1 A = some (nI (tms G v p q false (gN G))) from tgM hN hG hMA hw8 hp hq.2 hPA false, bd_s]
  have ta := tms_lt' hG (v := v) (p := p) (q := q) (up := true)
  have tb := tms_lt' hG (v := v) (p := p) (q := q) (up := false)
  generalize tms G v p q true (gN G) = ua at *
  generalize tms G v p q false (gN G) = ub at *
  obtain ⟨w, w1, w2⟩ := ltX (N := N) hN hG x3 ta tb
  rw [w1, bd_s]
  have pn : ¬ nI p = 0 := nI_ne0 (by omega) (by omega)
  refine lp_S (S := fun o => RR PR _ o) (fun k (c : Int32) => ∃ i, i + k = rN G ∧ c = nI i ∧ ∀ j, j < i → ¬ tgR G (rS G j) ua ub) (fun k c rc hJ => ?_) N (rN G) _ ⟨0, by omega, rfl, fun j hj => absurd hj (Nat.not_lt_zero _)⟩ (by omega)
  obtain ⟨i, hk, rfl, hI⟩ := hJ
  rw [l3.1]
  cases k with
  | zero =>
    left
    have e : i = rN G := by omega
    subst e
    rw [if_pos (nI_le (Nat.le_refl _) (by omega))]
    rcases w2 with ⟨rfl, -⟩ | ⟨j, j1, -, j3, -⟩
    · rw [if_neg (by decide)]; exact rr_ret ⟨rfl, hR⟩
    · exact absurd j3 (hI j j1)
  | succ k =>
    have hi : i < rN G := by omega
    have hm := (rS_ok hi).1.2.1
    have hm10 := lt1024 hm hn
    have i200 : inb (nI i) 200 := inb_nI (by omega) (by decide)
    have i64 : inb (nI i) 64 := inb_nI (by omega) (by decide)
    have ci : (nI i).toNatClampNeg = i := nI_clamp (by omega)
    obtain ⟨p1, -, p3⟩ := l3.2 i hi
    have hcb := cnt_bd (p := (rS G i).testBit) (gN G)
    have hlm : f_X8_length N (nI (rS G i)) A = some (nI (rL G (gG G) i)) := lenM hN hG hWA hm
    rw [if_neg (nI_ge hi (by omega))]
    simp only [jn_e, nm_e1, nI_1, ck_t pn, ck_t i200, ci, p1, btM1 hN hm10, bd_s, pc_cntn hm hn, hlm]
    have go : ¬ tgR G (rS G i) ua ub → ∃ m c, m < k + 1 ∧ (∃ i, i + m = rN G ∧ c = nI i ∧ ∀ j, j < i → ¬ tgR G (rS G j) ua ub) ∧ rc (nI (i + 1)) = rc c := fun q => ⟨k, _, by omega, ⟨i + 1, by omega, rfl, fun j hj => by
      by_cases e : j = i
      · rw [e]; exact q
      · exact hI j (by omega)⟩, rfl⟩
    have st : tgR G (rS G i) ua ub → RR PR (if 0 ≤ w then (if a3 = 0 then (ck (inb w 64) (some ((X.1 20 w.toNatClampNeg), X))) else (ck (inb w 64) (some (((nI q * (X.1 21 w.toNatClampNeg)) / nI p), X)))) else (some ((-1 : Int32), X))) (if a3 = 0 then (some (nI (rS G i), A)) else (some (((nI q * nI (rL G (gG G) i)) / nI p), A))) := by
      intro hT
      rcases w2 with ⟨-, e⟩ | ⟨j, j1, rfl, j3, j4⟩
      · exact absurd hT (e i hi)
      · have e : j = i := by
          rcases Nat.lt_trichotomy i j with q | q | q
          · exact absurd hT (j4 i q)
          · exact q.symm
          · exact absurd j3 (hI j q)
        subst e
        obtain ⟨y1, y2, -⟩ := x3.2.2 j j1
        rw [if_pos (nI_pos' (by omega))]
        simp only [ck_t i64, ci, y1, y2]
        exact rr_ite Iff.rfl (fun _ => rr_ret ⟨rfl, hR⟩) (fun _ => rr_ret ⟨rfl, hR⟩)
    by_cases c1 : cnt (rS G i).testBit (gN G) = 1
    · rw [if_pos (show nI (cnt (rS G i).testBit (gN G)) = 1 by rw [c1]; rfl)]
      have h0 := (rS_ok hi).1.1
      obtain ⟨-, b2, b3, b4⟩ := lb_d _ hm10 h0
      have b4 := b4 (by rw [pc_cntn hm hn]; exact c1)
      have hT : ((nI (rS G i) &&& nI ua) &&& nI ub = 0) ↔ ¬ tgR G (rS G i) ua ub := by
        unfold tgR
        rw [if_pos c1, nI_and, nI_and, nI0 (by have : (rS G i &&& ua) &&& ub ≤ rS G i := Nat.le_trans Nat.and_le_left Nat.and_le_left; omega), b4]
        constructor
        · intro e r
          have := r (lb (rS G i)) (by rw [Nat.testBit_two_pow]; simp)
          have h2 : ((2 ^ lb (rS G i) &&& ua) &&& ub).testBit (lb (rS G i)) = true := by
            rw [Nat.testBit_and, Nat.testBit_and, Nat.testBit_two_pow, this.1, this.2]; simp
          rw [e, Nat.zero_testBit] at h2
          exact absurd h2 (by decide)
        · intro r
          refine Nat.eq_of_testBit_eq (fun j => ?_)
          rw [Nat.testBit_and, Nat.testBit_and, Nat.zero_testBit]
          cases cc : (2 ^ lb (rS G i)).testBit j && ua.testBit j && ub.testBit j
          · rfl
          · exfalso
            simp at cc
            refine r (fun l hl => ?_)
            rw [Nat.testBit_two_pow] at cc hl
            simp at cc hl
            rw [← hl, cc.1.1]
            exact ⟨cc.1.2, cc.2⟩
      by_cases d : (nI (rS G i) &&& nI ua) &&& nI ub = 0
      · right
        rw [if_pos d, if_pos trivial]
        exact go (hT.mp d)
      · left
        rw [if_neg d, if_neg (show ¬ (1 : Int32) = 0 by decide)]
        refine st ?_
        by_cases e : tgR G (rS G i) ua ub
        · exact e
        · exact absurd (hT.mpr e) d
    · rw [if_neg (show ¬ nI (cnt (rS G i).testBit (gN G)) = 1 from ne1 (by omega) c1)]
      obtain ⟨u, hf, hu, hC⟩ := p3 c1
      have hfs : ∀ l, (adn (rS G i) u).testBit l = true → (rS G i).testBit l = true := fun l hl => by rw [adn_tb] at hl; simp at hl; exact hl.1
      have eq1 : ∀ x y, (∀ l, (rS G i).testBit l = true → (if (adn (rS G i) u).testBit l then x.testBit l else y.testBit l) = true) ↔ tgW (rS G i) y x u.testBit := fun x y => by
        unfold tgW
        constructor
        · intro r l hl
          have := r l hl
          rw [adn_tb, hl] at this
          cases c : u.testBit l <;> rw [c] at this <;> simpa using this
        · intro r l hl
          have := r l hl
          rw [adn_tb, hl]
          cases c : u.testBit l <;> rw [c] at this <;> simpa using this
      have hT : tgR G (rS G i) ua ub ↔ tgW (rS G i) ua ub u.testBit ∨ tgW (rS G i) ub ua u.testBit := by
        unfold tgR
        rw [if_neg c1]
        exact tgW_uq hG hm (dirR_c ⟨_, hC⟩) hC
      rw [hf]
      by_cases d1 : nI (rS G i) &&& (((nI (adn (rS G i) u) &&& nI ub) ||| ((nI (adn (rS G i) u) ^^^ (-1)) &&& nI ua)) ^^^ (-1)) = 0
      · left
        rw [if_pos d1, if_neg (show ¬ (1 : Int32) = 0 by decide)]
        exact st (hT.mpr (Or.inl ((eq1 _ _).mp ((sel_i hm10 tb ta hfs).mp d1))))
      · rw [if_neg d1]
        by_cases d2 : nI (rS G i) &&& (((nI (adn (rS G i) u) &&& nI ua) ||| ((nI (adn (rS G i) u) ^^^ (-1)) &&& nI ub)) ^^^ (-1)) = 0
        · left
          rw [if_pos d2, if_neg (show ¬ (1 : Int32) = 0 by decide)]
          exact st (hT.mpr (Or.inr ((eq1 _ _).mp ((sel_i hm10 ta tb hfs).mp d2))))
        · right
          rw [if_neg d2, if_pos trivial]
          refine go (fun q => ?_)
          rcases hT.mp q with q | q
          · exact d1 ((sel_i hm10 tb ta hfs).mpr ((eq1 _ _).mpr q))
          · exact d2 ((sel_i hm10 ta tb hfs).mpr ((eq1 _ _).mpr q))
