/-! colourings -/
def Col (G : Gr) (p q : Nat) (L : Nat → Nat → Bool) (c : Nat → Nat) : Prop := (∀ i, i < gP G → c i < p ∧ L i (c i) = true) ∧ ∀ l, l < gN G → apt (c (gA G l)) (c (gB G l)) p (q * gG G l) = true
/-- a row that is no greater -/
def Lx (P : Nat) (c d : Nat → Nat) : Prop := (∀ i, i < P → c i = d i) ∨ ∃ k, k < P ∧ (∀ i, i < k → c i = d i) ∧ c k < d k
def Fst (G : Gr) (p q : Nat) (L : Nat → Nat → Bool) (c : Nat → Nat) : Prop := Col G p q L c ∧ ∀ d, Col G p q L d → Lx (gP G) c d
theorem Lx.of_le {c d : Nat → Nat} : ∀ P, (∀ i, i < P → c i ≤ d i) → Lx P c d
  | 0, _ => Or.inl (fun i hi => absurd hi (Nat.not_lt_zero _))
  | P + 1, h => by
    rcases Lx.of_le P (fun i hi => h i (by omega)) with q | ⟨k, k1, k2, k3⟩
    · have := h P (by omega)
      rcases Nat.eq_or_lt_of_le this with e | e
      · refine Or.inl (fun i hi => ?_)
        by_cases z : i = P
        · rw [z]; exact e
        · exact q i (by omega)
      · exact Or.inr ⟨P, by omega, q, e⟩
    · exact Or.inr ⟨k, by omega, k2, k3⟩
theorem Lx.tr {P : Nat} {c d e : Nat → Nat} (h : Lx P c d) (h2 : Lx P d e) : Lx P c e := by
  rcases h with h | ⟨k, k1, k2, k3⟩
  · rcases h2 with h2 | ⟨j, j1, j2, j3⟩
    · exact Or.inl (fun i hi => (h i hi).trans (h2 i hi))
    · exact Or.inr ⟨j, j1, fun i hi => (h i (by omega)).trans (j2 i hi), by rw [h j j1]; exact j3⟩
  · rcases h2 with h2 | ⟨j, j1, j2, j3⟩
    · exact Or.inr ⟨k, k1, fun i hi => (k2 i hi).trans (h2 i (by omega)), by rw [← h2 k k1]; exact k3⟩
    · rcases Nat.lt_trichotomy k j with q | q | q
      · exact Or.inr ⟨k, k1, fun i hi => (k2 i hi).trans (j2 i (by omega)), by rw [← j2 k q]; exact k3⟩
      · subst q
        exact Or.inr ⟨k, k1, fun i hi => (k2 i hi).trans (j2 i hi), by omega⟩
      · exact Or.inr ⟨j, j1, fun i hi => (k2 i (by omega)).trans (j2 i hi), by rw [k2 j q]; exact j3⟩
theorem Lx.as {P : Nat} {c d : Nat → Nat} (h : Lx P c d) (h2 : Lx P d c) : ∀ i, i < P → c i = d i := by
  rcases h with h | ⟨k, k1, k2, k3⟩
  · exact h
  · exfalso
    rcases h2 with h2 | ⟨j, j1, j2, j3⟩
    · have := h2 k k1; omega
    · rcases Nat.lt_trichotomy k j with q | q | q
      · have := j2 k q; omega
      · subst q; omega
      · have := k2 j q; omega
theorem Fst.uq {G : Gr} {p q : Nat} {L : Nat → Nat → Bool} {c d : Nat → Nat} (h : Fst G p q L c) (h2 : Fst G p q L d) : ∀ i, i < gP G → c i = d i := (h.2 d h2.1).as (h2.2 c h.1)
theorem Fst.ex {G : Gr} {p q : Nat} {L : Nat → Nat → Bool} (h : ∃ d, Col G p q L d) : ∃ c, Fst G p q L c := by
  have key : ∀ k, k ≤ gP G → ∃ c, Col G p q L c ∧ ∀ d, Col G p q L d → Lx k c d := by
    intro k
    induction k with
    | zero => intro _; obtain ⟨d, hd⟩ := h; exact ⟨d, hd, fun e _ => Or.inl (fun i hi => absurd hi (Nat.not_lt_zero _))⟩
    | succ k ih =>
      intro hk
      obtain ⟨c, c1, c2⟩ := ih (by omega)
      obtain ⟨x, ⟨c', d1, d2, d3⟩, x2⟩ := pk_least (fun x => ∃ c', Col G p q L c' ∧ (∀ i, i < k → c' i = c i) ∧ c' k = x) ⟨c k, c, c1, fun _ _ => rfl, rfl⟩
      refine ⟨c', d1, fun d hd => ?_⟩
      rcases c2 d hd with r | ⟨j, j1, j2, j3⟩
      · have hx : x ≤ d k := by
          rcases Nat.lt_or_ge (d k) x with s | s
          · exact absurd ⟨d, hd, fun i hi => (r i hi).symm, rfl⟩ (x2 (d k) s)
          · exact s
        rcases Nat.eq_or_lt_of_le hx with e | e
        · refine Or.inl (fun i hi => ?_)
          by_cases z : i = k
          · rw [z, d3]; exact e
          · rw [d2 i (by omega)]; exact r i (by omega)
        · exact Or.inr ⟨k, by omega, fun i hi => by rw [d2 i hi]; exact r i hi, by rw [d3]; exact e⟩
      · exact Or.inr ⟨j, by omega, fun i hi => by rw [d2 i (by omega)]; exact j2 i hi, by rw [d2 j j1]; exact j3⟩
  exact key (gP G) (Nat.le_refl _)
theorem apt_cm (x y p r : Nat) : apt x y p r = apt y x p r := by unfold apt dst; rw [Nat.add_comm (x - y) (y - x)]
/-! by a turn -/
def frL (G : Gr) (t l : Nat) : Nat := if t.testBit l then gB G l else gA G l
def toL (G : Gr) (t l : Nat) : Nat := if t.testBit l then gA G l else gB G l
def Lie (G : Gr) (p q t : Nat) (c : Nat → Nat) : Prop := ∀ l, l < gN G → c (frL G t l) + q * gG G l ≤ c (toL G t l) ∧ c (toL G t l) + q * gG G l ≤ c (frL G t l) + p
theorem Lie.apt {G : Gr} {p q t : Nat} {c : Nat → Nat} (h : Lie G p q t c) {l : Nat} (hl : l < gN G) : apt (c (gA G l)) (c (gB G l)) p (q * gG G l) = true := by
  obtain ⟨h1, h2⟩ := h l hl
  unfold frL toL at h1 h2
  show (decide (_ ≤ dst _ _) && decide _) = true
  unfold dst
  cases c' : t.testBit l
  · rw [c'] at h1 h2
    simp at h1 h2 ⊢
    omega
  · rw [c'] at h1 h2
    simp at h1 h2 ⊢
    omega
/-- the turn by which a colouring lies -/
def tuC (G : Gr) (c : Nat → Nat) : Nat := mk (fun l => decide (c (gB G l) < c (gA G l))) (gN G)
theorem Col.lie {G : Gr} {p q : Nat} {L : Nat → Nat → Bool} {c : Nat → Nat} (h : Col G p q L c) : Lie G p q (tuC G c) c ∧ tuC G c < 2 ^ gN G := by
  refine ⟨fun l hl => ?_, mk_lt _⟩
  have h1 := h.2 l hl
  unfold apt dst at h1
  simp at h1
  unfold frL toL tuC
  rw [mk_tb, decide_eq_true hl, Bool.true_and]
  by_cases e : c (gB G l) < c (gA G l)
  · simp [e]; omega
  · simp [e]; omega
/-! a colouring by a turn: all its rings' rates are no more than p of q -/
theorem sm_pt {c : Nat → Nat} {e : Nat} : ∀ n, e < n → sm (fun x => c x * (decide (e = x)).toNat) n = c e
  | 0, h => absurd h (Nat.not_lt_zero _)
  | n + 1, h => by
    show sm _ n + c n * (decide (e = n)).toNat = c e
    by_cases z : e = n
    · subst z
      have : sm (fun x => c x * (decide (e = x)).toNat) e = 0 := by
        rw [sm_cg (g := fun _ => 0) _ (fun x hx => by rw [decide_eq_false (show ¬ e = x by omega)]; exact Nat.mul_zero _), sm_c, Nat.zero_mul]
      rw [this, decide_eq_true rfl, Nat.zero_add]; exact Nat.mul_one _
    · rw [sm_pt n (by omega), decide_eq_false z]; exact Nat.add_zero _
theorem sm_end {G : Gr} {S : Nat → Bool} {c e : Nat → Nat} {P : Nat} : ∀ n, (∀ l, l < n → e l < P) → sm (fun l => if S l then c (e l) else 0) n = sm (fun x => c x * cnt (fun l => S l && decide (e l = x)) n) P
  | 0, _ => by
    show 0 = sm (fun x => c x * 0) P
    rw [sm_cg (g := fun _ => 0) _ (fun x _ => Nat.mul_zero _), sm_c, Nat.zero_mul]
  | n + 1, h => by
    show sm _ n + (if S n then c (e n) else 0) = sm (fun x => c x * (cnt (fun l => S l && decide (e l = x)) n + (S n && decide (e n = x)).toNat)) P
    rw [sm_cg (g := fun x => c x * cnt (fun l => S l && decide (e l = x)) n + c x * (S n && decide (e n = x)).toNat) _ (fun x _ => Nat.mul_add _ _ _), sm_add, sm_end (G := G) n (fun l hl => h l (by omega))]
    congr 1
    cases S n
    · rw [sm_cg (f := fun x => c x * (false && decide (e n = x)).toNat) (g := fun _ => 0) _ (fun x _ => Nat.mul_zero _), sm_c, Nat.zero_mul]; rfl
    · rw [if_pos rfl, sm_cg (g := fun x => c x * (decide (e n = x)).toNat) _ (fun x _ => by rw [Bool.true_and]), sm_pt P (h n (by omega))]
/-- where one comes, where one goes from, as a line is gone up or down -/
def enL (G : Gr) (U : Nat → Bool) (l : Nat) : Nat := if U l then gB G l else gA G l
def stL (G : Gr) (U : Nat → Bool) (l : Nat) : Nat := if U l then gA G l else gB G l
theorem Cyc.sum {G : Gr} (hG : GrOk G) {S U : Nat → Bool} (h : Cyc G S U) (c : Nat → Nat) : sm (fun l => if S l then c (enL G U l) else 0) (gN G) = sm (fun l => if S l then c (stL G U l) else 0) (gN G) := by
  have hP : ∀ l, l < gN G → gA G l < gP G ∧ gB G l < gP G := fun l hl => by have := hG.2.2.1 l hl; omega
  rw [sm_end (G := G) (P := gP G) (gN G) (fun l hl => by have := hP l hl; unfold enL; split <;> omega), sm_end (G := G) (P := gP G) (gN G) (fun l hl => by have := hP l hl; unfold stL; split <;> omega)]
  refine sm_cg _ (fun x _ => ?_)
  have e1 : cnt (fun l => S l && decide (enL G U l = x)) (gN G) = din G S U x := cnt_cg _ (fun l _ => by unfold enL ent; cases U l <;> rfl)
  have e2 : cnt (fun l => S l && decide (stL G U l = x)) (gN G) = dou G S U x := cnt_cg _ (fun l _ => by unfold stL lea; cases U l <;> rfl)
  rw [e1, e2, h.2.1 x]
/-- sums over lines gone along, gone against -/
theorem lie_sum {G : Gr} {p q t : Nat} {c : Nat → Nat} (hL : Lie G p q t c) (m : Nat) (U : Nat → Bool) : ∀ n, n ≤ gN G → ∃ X Y Z W R1 R2 a1 a2, sm (fun l => if m.testBit l then c (enL G U l) else 0) n = X + W ∧ sm (fun l => if m.testBit l then c (stL G U l) else 0) n = Y + Z ∧ q * lnS (gG G) m n = R1 + R2 ∧ alw n m U t = a1 ∧ cnt m.testBit n = a1 + a2 ∧ Y + R1 ≤ X ∧ X + R1 ≤ Y + p * a1 ∧ W + R2 ≤ Z ∧ Z + R2 ≤ W + p * a2
  | 0, _ => ⟨0, 0, 0, 0, 0, 0, 0, 0, rfl, rfl, rfl, rfl, rfl, Nat.le_refl _, Nat.zero_le _, Nat.le_refl _, Nat.zero_le _⟩
  | n + 1, hn => by
    obtain ⟨X, Y, Z, W, R1, R2, a1, a2, e1, e2, e3, e4, e5, i1, i2, i3, i4⟩ := lie_sum hL m U n (by omega)
    obtain ⟨h1, h2⟩ := hL n (by omega)
    have f1 : sm (fun l => if m.testBit l then c (enL G U l) else 0) (n + 1) = sm (fun l => if m.testBit l then c (enL G U l) else 0) n + (if m.testBit n then c (enL G U n) else 0) := rfl
    have f2 : sm (fun l => if m.testBit l then c (stL G U l) else 0) (n + 1) = sm (fun l => if m.testBit l then c (stL G U l) else 0) n + (if m.testBit n then c (stL G U n) else 0) := rfl
    have f3 : lnS (gG G) m (n + 1) = lnS (gG G) m n + (if m.testBit n then gG G n else 0) := rfl
    have f4 : alw (n + 1) m U t = alw n m U t + (m.testBit n && (U n ^^ t.testBit n)).toNat := rfl
    have f5 : cnt m.testBit (n + 1) = cnt m.testBit n + (m.testBit n).toNat := rfl
    rw [f1, f2, f3, f4, f5, e1, e2, e4, e5, Nat.mul_add, e3]
    cases hm : m.testBit n
    · exact ⟨X, Y, Z, W, R1, R2, a1, a2, rfl, rfl, rfl, rfl, rfl, i1, i2, i3, i4⟩
    · cases hU : U n <;> cases ht : t.testBit n
      · have g1 : enL G U n = frL G t n := by unfold enL frL; rw [hU, ht]
        have g2 : stL G U n = toL G t n := by unfold stL toL; rw [hU, ht]
        rw [g1, g2]
        refine ⟨X, Y, Z + c (toL G t n), W + c (frL G t n), R1, R2 + q * gG G n, a1, a2 + 1, ?_, ?_, ?_, rfl, ?_, i1, i2, by omega, ?_⟩
        · simp; omega
        · simp; omega
        · simp; omega
        · show a1 + a2 + 1 = _; omega
        · rw [Nat.mul_add, Nat.mul_one]; omega
      · have g1 : enL G U n = toL G t n := by unfold enL toL; rw [hU, ht]; rfl
        have g2 : stL G U n = frL G t n := by unfold stL frL; rw [hU, ht]; rfl
        rw [g1, g2]
        refine ⟨X + c (toL G t n), Y + c (frL G t n), Z, W, R1 + q * gG G n, R2, a1 + 1, a2, ?_, ?_, ?_, rfl, ?_, by omega, ?_, i3, i4⟩
        · simp; omega
        · simp; omega
        · simp; omega
        · show a1 + a2 + 1 = _; omega
        · rw [Nat.mul_add, Nat.mul_one]; omega
      · have g1 : enL G U n = toL G t n := by unfold enL toL; rw [hU, ht]; rfl
        have g2 : stL G U n = frL G t n := by unfold stL frL; rw [hU, ht]; rfl
        rw [g1, g2]
        refine ⟨X + c (toL G t n), Y + c (frL G t n), Z, W, R1 + q * gG G n, R2, a1 + 1, a2, ?_, ?_, ?_, rfl, ?_, by omega, ?_, i3, i4⟩
        · simp; omega
        · simp; omega
        · simp; omega
        · show a1 + a2 + 1 = _; omega
        · rw [Nat.mul_add, Nat.mul_one]; omega
      · have g1 : enL G U n = frL G t n := by unfold enL frL; rw [hU, ht]
        have g2 : stL G U n = toL G t n := by unfold stL toL; rw [hU, ht]
        rw [g1, g2]
        refine ⟨X, Y, Z + c (toL G t n), W + c (frL G t n), R1, R2 + q * gG G n, a1, a2 + 1, ?_, ?_, ?_, rfl, ?_, i1, i2, by omega, ?_⟩
        · simp; omega
        · simp; omega
        · simp; omega
        · show a1 + a2 + 1 = _; omega
        · rw [Nat.mul_add, Nat.mul_one]; omega
theorem lie_ring {G : Gr} (hG : GrOk G) {p q t : Nat} {c : Nat → Nat} (hL : Lie G p q t c) {i : Nat} (hi : i < rN G) : rL G (gG G) i * q ≤ p * rA G t i := by
  have hn := hG.2.1
  obtain ⟨r1, -⟩ := rS_ok hi
  unfold rL lnR rA alR
  generalize rS G i = m at *
  obtain ⟨r0, r2, r3⟩ := r1
  by_cases one : cnt m.testBit (gN G) = 1
  · rw [if_pos one]
    unfold fewN
    rw [if_pos one, Nat.mul_one]
    obtain ⟨l, hl⟩ := ne_tb r0
    have hln : l < gN G := by
      rcases Nat.lt_or_ge l (gN G) with z | z
      · exact z
      · rw [tb_hi r2 z] at hl; exact absurd hl (by decide)
    have e := (one_bit r2 hn hl).mp one
    rw [e, lnS_2, if_pos hln]
    obtain ⟨h1, h2⟩ := hL l hln
    have : gG G l * 2 * q = 2 * (q * gG G l) := by ac_rfl
    omega
  · have hC : ∃ U, Cyc G m.testBit U := by
      rcases r3 with r3 | r3
      · exact absurd r3 one
      · exact r3
    have hc := dirR_c hC
    obtain ⟨X, Y, Z, W, R1, R2, a1, a2, e1, e2, e3, e4, e5, i1, i2, i3, i4⟩ := lie_sum hL m (dirR G m) (gN G) (Nat.le_refl _)
    have hs := hc.sum hG c
    rw [e1, e2] at hs
    rw [if_neg one, Nat.mul_one, Nat.mul_comm, e3]
    unfold fewN
    rw [if_neg one, e4, e5]
    have : a1 + a2 - a1 = a2 := by omega
    rw [this]
    split <;> omega
theorem lie_ok {G : Gr} (hG : GrOk G) {p q t : Nat} {c : Nat → Nat} (hq : 1 ≤ q) (hL : Lie G p q t c) : okT G t p q = true := by
  have hc : crG G t = false := crc_f _ (fun i hi => Or.inr (fun e => by
    have h1 := lie_ring hG hL hi
    have h2 := rL_pos (gG_pos hG) hi
    rw [e, Nat.mul_zero] at h1
    have := Nat.mul_pos (show 0 < rL G (gG G) i by omega) (show 0 < q by omega)
    omega))
  unfold okT
  rw [hc, decide_eq_true ((al_iff hc p q).mpr (fun i hi => lie_ring hG hL hi))]; rfl
