/-! the reference lays the first colouring -/
def IniP (G : Gr) (ls : Nat → Int64) (li p : Nat) (mm : Nat → Nat) (j : Nat) : Prop := li = 1 ∧ mm j = lsN ls j % 2 ^ p ∨ li ≠ 1 ∧ (mm j = 2 ^ p - 1 ∨ mm j = 1 ∧ ∃ w, Clo G w (gN G) ∧ w.testBit j = true ∧ ∀ i, i < j → w.testBit i = false)
theorem ini_col {G : Gr} {ls : Nat → Int64} {li p q : Nat} {mm c : Nat → Nat} (hI : ∀ j, j < gP G → IniP G ls li p mm j) (h : Col G p q (fun i y => (mm i).testBit y) c) : Col G p q (plc ls li) c := by
  refine ⟨fun i hi => ⟨(h.1 i hi).1, ?_⟩, h.2⟩
  have h1 : (mm i).testBit (c i) = true := (h.1 i hi).2
  unfold plc
  rcases hI i hi with ⟨e, q⟩ | ⟨e, q⟩
  · rw [q, Nat.testBit_mod_two_pow] at h1
    simp at h1
    rw [h1.2, Bool.or_true]
  · rw [decide_eq_true e]; rfl
/-- the first one has place 0 at the first point of each part -/
theorem ini_fst {G : Gr} (hG : GrOk G) {ls : Nat → Int64} {li p q : Nat} {mm c : Nat → Nat} (hI : ∀ j, j < gP G → IniP G ls li p mm j) (h : Fst G p q (plc ls li) c) : Col G p q (fun i y => (mm i).testBit y) c := by
  refine ⟨fun i hi => ⟨(h.1.1 i hi).1, ?_⟩, h.1.2⟩
  obtain ⟨h1, h2⟩ := h.1.1 i hi
  show (mm i).testBit (c i) = true
  rcases hI i hi with ⟨e, z⟩ | ⟨e, z | ⟨z, w, w1, w2, w3⟩⟩
  · rw [z, Nat.testBit_mod_two_pow, decide_eq_true h1]
    unfold plc at h2
    rw [decide_eq_false (fun q => q e)] at h2
    exact h2
  · rw [z, Nat.testBit_two_pow_sub_one, decide_eq_true h1]
  · have h0 : c i = 0 := by
      rcases Nat.eq_zero_or_pos (c i) with r | r
      · exact r
      · exfalso
        have hall : ∀ j y, plc ls li j y = true := fun j y => by unfold plc; rw [decide_eq_true e]; rfl
        obtain ⟨d, hd⟩ : ∃ d : Nat → Nat, d = fun j => if w.testBit j then (c j + (p - c i)) % p else c j := ⟨_, rfl⟩
        have hC : Col G p q (plc ls li) d := by
          refine ⟨fun j hj => ⟨?_, hall _ _⟩, fun l hl => ?_⟩
          · rw [hd]
            dsimp only
            split
            · exact Nat.mod_lt _ (by omega)
            · exact (h.1.1 j hj).1
          · have hcl := w1 l hl
            have hl' := h.1.2 l hl
            rw [hd]
            dsimp only
            rw [← hcl]
            cases hw : w.testBit (gA G l)
            · rw [if_neg (by decide), if_neg (by decide)]; exact hl'
            · have o := (hG.2.2.1 l hl).2.2.2
              rw [if_pos rfl, if_pos rfl, apt_sh (h.1.1 _ (by omega)).1 (h.1.1 _ o.2).1 (by omega)]; exact hl'
        have hdi : d i = 0 := by
          rw [hd]
          dsimp only
          rw [w2, if_pos rfl, show c i + (p - c i) = p by omega, Nat.mod_self]
        have hlt : ∀ j, j < i → d j = c j := fun j hj => by
          rw [hd]
          dsimp only
          rw [w3 j hj, if_neg (by decide)]
        rcases h.2 d hC with q | ⟨k, k1, k2, k3⟩
        · have := q i hi; omega
        · rcases Nat.lt_trichotomy k i with s | s | s
          · rw [hlt k s] at k3; omega
          · rw [s, hdi] at k3; omega
          · have := k2 i s; omega
    rw [z, h0]; rfl
theorem sh2 {l : Nat} (h : l < 30) : (2 : Int32) <<< (nI l &&& 31) = nI (2 ^ (l + 1)) := by
  rw [and31 (by omega)]
  have h2 : (2 : Nat) ^ l < 2 ^ 30 := Nat.pow_lt_pow_right (by omega) h
  have := pk_shlN (n := 2) (nI l) l (smod32 l (by omega)) (by omega)
  rw [Nat.pow_succ, Nat.mul_comm (2 ^ l) 2]
  exact this
/-- places so far, what the rest may have -/
def CoS (G : Gr) (p q : Nat) (m0 mm v : Nat → Nat) (k : Nat) : Prop := (∀ i, i < k → mm i = 2 ^ v i ∧ v i < p ∧ (m0 i).testBit (v i) = true) ∧ (∀ i, k ≤ i → i < gP G → ∀ y, (mm i).testBit y = true ↔ (m0 i).testBit y = true ∧ ∀ l, l < gN G → inc G l i = true → oth G l i < k → apt (v (oth G l i)) y p (q * gG G l) = true) ∧ (∀ l, l < gN G → gA G l < k → gB G l < k → apt (v (gA G l)) (v (gB G l)) p (q * gG G l) = true) ∧ ∀ c, Fst G p q (fun i y => (m0 i).testBit y) c → ∀ i, i < k → c i = v i
theorem Col.line {G : Gr} {p q : Nat} {L : Nat → Nat → Bool} {c : Nat → Nat} (h : Col G p q L c) {l k : Nat} (hl : l < gN G) (hi : inc G l k = true) : apt (c k) (c (oth G l k)) p (q * gG G l) = true := by
  unfold inc at hi
  simp at hi
  by_cases e : gA G l = k
  · have ho : oth G l k = gB G l := if_pos e
    rw [ho, ← e]; exact h.2 l hl
  · have e2 : gB G l = k := by omega
    have ho : oth G l k = gA G l := if_neg e
    rw [ho, ← e2, apt_cm]; exact h.2 l hl
theorem two_tb {x y : Nat} : (2 ^ x).testBit y = true ↔ y = x := by
  rw [Nat.testBit_two_pow, decide_eq_true_iff]; exact ⟨Eq.symm, Eq.symm⟩
/-- placed points stay as they are -/
theorem CoS.old {G : Gr} (hG : GrOk G) {p q k x : Nat} {m0 mm v nw : Nat → Nat} (h : CoS G p q m0 mm v k) (hk : k < gP G) (hx : (mm k).testBit x = true) (hN : NwS G p q k x mm nw (gN G)) {i : Nat} (hi : i < k) : nw i = 2 ^ v i := by
  obtain ⟨h1, h2, -, -⟩ := h
  refine Nat.eq_of_testBit_eq (fun y => ?_)
  rw [(hN i (by omega)).2.2 (by omega) y, (h1 i hi).1]
  cases c : (2 ^ v i).testBit y
  · rfl
  · rw [Bool.true_and]
    have ey := two_tb.mp c
    refine (nbk_all (gN G)).mpr (fun l hl i1 i2 => ?_)
    have := ((h2 k (Nat.le_refl _) hk x).mp hx).2 l hl i1 (by rw [i2]; exact hi)
    rw [i2, ← ey] at this
    rw [apt_cm]; exact this
theorem CoS.inv {G : Gr} (hG : GrOk G) {p q k x w : Nat} {m0 mm v nw : Nat → Nat} (h : CoS G p q m0 mm v k) (hk : k < gP G) (hx : (mm k).testBit x = true) (hN : NwS G p q k x mm nw (gN G)) (hw : Clo G w (gN G)) {rest : Nat} (hr : ∀ i, rest.testBit i = (w.testBit i && decide (k < i))) : InvE G p q rest.testBit nw := by
  intro l hl k' i1 p1 p2
  have hk' := inc_lt hG hl i1
  have hoP := inc_lt hG hl (oth_inc i1)
  rw [hr] at p1 p2
  simp at p1
  have hcw : w.testBit (oth G l k') = true := by
    have := hw l hl
    unfold inc at i1
    simp at i1
    unfold oth
    split
    · next e => rw [← this, e]; exact p1.1
    · next e => rw [this, show gB G l = k' by omega]; exact p1.1
  rw [hcw, Bool.true_and, decide_eq_false_iff_not] at p2
  have hx'mm : ∀ x', (nw k').testBit x' = true → (mm k').testBit x' = true ∧ ∀ l, l < gN G → inc G l k = true → oth G l k = k' → apt x x' p (q * gG G l) = true := fun x' hx' => by
    rw [(hN k' hk').2.2 (by omega), Bool.and_eq_true, nbk_all] at hx'
    exact hx'
  rcases Nat.lt_or_eq_of_le (show oth G l k' ≤ k by omega) with e | e
  · rw [h.old hG hk hx hN e]
    refine ⟨by have := Nat.two_pow_pos (v (oth G l k')); omega, fun x' y hx' hy => ?_⟩
    rw [two_tb.mp hy, apt_cm]
    exact ((h.2.1 k' (by omega) hk' x').mp (hx'mm x' hx').1).2 l hl i1 e
  · rw [e, (hN k hk).2.1 rfl]
    refine ⟨by have := Nat.two_pow_pos x; omega, fun x' y hx' hy => ?_⟩
    rw [two_tb.mp hy, apt_cm]
    refine (hx'mm x' hx').2 l hl ?_ ?_
    · rw [← e]; exact oth_inc i1
    · rw [← e]; exact oth_oth hG hl i1
theorem CoS.inn {G : Gr} (hG : GrOk G) {p q k w rest : Nat} {m0 mm v nw c : Nat → Nat} (h : CoS G p q m0 mm v k) (hk : k < gP G) (hr : ∀ i, rest.testBit i = (w.testBit i && decide (k < i))) (hc : Col G p q (fun i y => (m0 i).testBit y) c) (hv : ∀ i, i < k → c i = v i) : (mm k).testBit (c k) = true ∧ (NwS G p q k (c k) mm nw (gN G) → (∀ l, l < gN G → inc G l k = true → nw (oth G l k) ≠ 0) ∧ EW G p q rest.testBit nw c) := by
  have hmm : ∀ i, k ≤ i → i < gP G → (mm i).testBit (c i) = true := fun i hi hiP => by
    refine (h.2.1 i hi hiP (c i)).mpr ⟨(hc.1 i hiP).2, fun l hl i1 i2 => ?_⟩
    rw [← hv _ i2, apt_cm]; exact hc.line hl i1
  refine ⟨hmm k (Nat.le_refl _) hk, fun hN => ?_⟩
  have hnw : ∀ i, i < gP G → k < i → (nw i).testBit (c i) = true := fun i hi hki => by
    rw [(hN i hi).2.2 (by omega), hmm i (by omega) hi, Bool.true_and]
    refine (nbk_all (gN G)).mpr (fun l hl i1 i2 => ?_)
    have := hc.line hl i1
    rw [i2] at this; exact this
  constructor
  · intro l hl i1
    have hon := (oth_ne hG hl i1).1
    have hoP := inc_lt hG hl (oth_inc i1)
    rcases Nat.lt_or_ge (oth G l k) k with e | e
    · rw [h.old hG hk (hmm k (Nat.le_refl _) hk) hN e]
      have := Nat.two_pow_pos (v (oth G l k)); omega
    · intro e0
      have := hnw (oth G l k) hoP (by omega)
      rw [e0, Nat.zero_testBit] at this; exact absurd this (by decide)
  · refine ⟨fun i hi hp => ?_, fun l hl _ _ => hc.2 l hl⟩
    rw [hr] at hp
    simp at hp
    exact ⟨(hc.1 i hi).1, hnw i hi hp.2⟩
theorem CoS.out {G : Gr} (hG : GrOk G) {p q k x w rest : Nat} {m0 mm v nw c d : Nat → Nat} (h : CoS G p q m0 mm v k) (hk : k < gP G) (hx : x < p) (hmx : (mm k).testBit x = true) (hN : NwS G p q k x mm nw (gN G)) (hw : Clo G w (gN G)) (hwk : w.testBit k = true) (hr : ∀ i, rest.testBit i = (w.testBit i && decide (k < i))) (hd : EW G p q rest.testBit nw d) (hc : Col G p q (fun i y => (m0 i).testBit y) c) (hv : ∀ i, i < k → c i = v i) : ∃ c', Col G p q (fun i y => (m0 i).testBit y) c' ∧ (∀ i, i < k → c' i = v i) ∧ c' k = x := by
  obtain ⟨h1, h2, h3, -⟩ := h
  obtain ⟨e, he⟩ : ∃ e : Nat → Nat, e = fun i => if i < k then v i else if i = k then x else if w.testBit i then d i else c i := ⟨_, rfl⟩
  have e1 : ∀ i, i < k → e i = v i := fun i hi => by rw [he]; dsimp only; rw [if_pos hi]
  have e2 : e k = x := by rw [he]; dsimp only; rw [if_neg (by omega), if_pos rfl]
  have e3 : ∀ i, k < i → w.testBit i = true → e i = d i := fun i hi hwi => by rw [he]; dsimp only; rw [if_neg (by omega), if_neg (by omega), if_pos hwi]
  have e4 : ∀ i, w.testBit i = false → e i = c i := fun i hwi => by
    by_cases q1 : i < k
    · rw [e1 i q1, hv i q1]
    · have q2 : i ≠ k := fun z => by rw [z, hwk] at hwi; exact absurd hwi (by decide)
      rw [he]; dsimp only; rw [if_neg q1, if_neg q2, hwi]; rfl
  have hdm : ∀ i, i < gP G → k < i → w.testBit i = true → d i < p ∧ (mm i).testBit (d i) = true ∧ ∀ l, l < gN G → inc G l k = true → oth G l k = i → apt x (d i) p (q * gG G l) = true := fun i hi hki hwi => by
    obtain ⟨u1, u2⟩ := hd.1 i hi (by rw [hr, hwi, decide_eq_true hki]; rfl)
    rw [(hN i hi).2.2 (by omega), Bool.and_eq_true, nbk_all] at u2
    exact ⟨u1, u2⟩
  refine ⟨e, ⟨fun i hi => ?_, fun l hl => ?_⟩, e1, e2⟩
  · show e i < p ∧ (m0 i).testBit (e i) = true
    rcases Nat.lt_trichotomy i k with q1 | q1 | q1
    · rw [e1 i q1]; exact (h1 i q1).2
    · rw [q1, e2]; exact ⟨hx, ((h2 k (Nat.le_refl _) hk x).mp hmx).1⟩
    · cases hwi : w.testBit i
      · rw [e4 i hwi]; exact hc.1 i hi
      · rw [e3 i q1 hwi]
        obtain ⟨u1, u2, -⟩ := hdm i hi q1 hwi
        exact ⟨u1, ((h2 i (by omega) hi _).mp u2).1⟩
  · obtain ⟨-, -, -, o4, o5⟩ := hG.2.2.1 l hl
    have hcl := hw l hl
    cases hwa : w.testBit (gA G l)
    · rw [e4 _ hwa, e4 _ (by rw [← hcl]; exact hwa)]; exact hc.2 l hl
    · have hwb : w.testBit (gB G l) = true := by rw [← hcl]; exact hwa
      have iB : inc G l (gB G l) = true := by simp [inc]
      have oB : oth G l (gB G l) = gA G l := by unfold oth; rw [if_neg (by omega)]
      have iA : inc G l (gA G l) = true := by simp [inc]
      have oA : oth G l (gA G l) = gB G l := by unfold oth; rw [if_pos rfl]
      rcases Nat.lt_trichotomy (gB G l) k with q1 | q1 | q1
      · rw [e1 _ q1, e1 _ (by omega)]; exact h3 l hl (by omega) q1
      · rw [e1 _ (by omega), q1, e2]
        have := ((h2 k (Nat.le_refl _) hk x).mp hmx).2 l hl (by rw [← q1]; exact iB) (by rw [← q1, oB]; omega)
        rw [← q1, oB] at this
        exact this
      · obtain ⟨u1, u2, u3⟩ := hdm _ o5 q1 hwb
        rw [e3 _ q1 hwb]
        rcases Nat.lt_trichotomy (gA G l) k with q2 | q2 | q2
        · rw [e1 _ q2]
          have := ((h2 _ (by omega) o5 _).mp u2).2 l hl iB (by rw [oB]; exact q2)
          rw [oB] at this
          exact this
        · rw [q2, e2]
          exact u3 l hl (by rw [← q2]; exact iA) (by rw [← q2]; exact oA)
        · rw [e3 _ q2 hwa]
          exact hd.2 l hl (by rw [hr, hwa, decide_eq_true q2]; rfl) (by rw [hr, hwb, decide_eq_true q1]; rfl)
theorem CoS.st {G : Gr} (hG : GrOk G) {p q k x : Nat} {m0 mm v nw : Nat → Nat} (h : CoS G p q m0 mm v k) (hk : k < gP G) (hx : x < p) (hmx : (mm k).testBit x = true) (hN : NwS G p q k x mm nw (gN G)) (hf : ∀ c, Fst G p q (fun i y => (m0 i).testBit y) c → c k = x) : CoS G p q m0 nw (upv v k x) (k + 1) := by
  have hold := fun i hi => h.old (i := i) hG hk hmx hN hi
  obtain ⟨h1, h2, h3, h4⟩ := h
  have hkx := (h2 k (Nat.le_refl _) hk x).mp hmx
  refine ⟨fun i hi => ?_, fun i hi hiP y => ?_, fun l hl la lb => ?_, fun c hc i hi => ?_⟩
  · by_cases e : i = k
    · subst e
      rw [upv_s]; exact ⟨(hN i hk).2.1 rfl, hx, hkx.1⟩
    · rw [upv_o e]; exact ⟨hold i (by omega), (h1 i (by omega)).2⟩
  · rw [(hN i hiP).2.2 (by omega), Bool.and_eq_true, nbk_all, h2 i (by omega) hiP y]
    constructor
    · rintro ⟨⟨u1, u2⟩, u3⟩
      refine ⟨u1, fun l hl i1 i2 => ?_⟩
      by_cases e : oth G l i = k
      · rw [e, upv_s]
        exact u3 l hl (by rw [← e]; exact oth_inc i1) (by rw [← e]; exact oth_oth hG hl i1)
      · rw [upv_o e]; exact u2 l hl i1 (by omega)
    · rintro ⟨u1, u2⟩
      refine ⟨⟨u1, fun l hl i1 i2 => ?_⟩, fun l hl i1 i2 => ?_⟩
      · have := u2 l hl i1 (by omega)
        rw [upv_o (by omega)] at this; exact this
      · have e : oth G l i = k := by rw [← i2]; exact oth_oth hG hl i1
        have := u2 l hl (by rw [← i2]; exact oth_inc i1) (by omega)
        rw [e, upv_s] at this; exact this
  · have o4 := (hG.2.2.1 l hl).2.2.2.1
    have iB : inc G l (gB G l) = true := by simp [inc]
    have oB : oth G l (gB G l) = gA G l := by unfold oth; rw [if_neg (by omega)]
    by_cases e : gB G l = k
    · rw [upv_o (show gA G l ≠ k by omega), e, upv_s]
      have := hkx.2 l hl (by rw [← e]; exact iB) (by rw [← e, oB]; omega)
      rw [← e, oB] at this
      exact this
    · rw [upv_o (show gA G l ≠ k by omega), upv_o e]; exact h3 l hl (by omega) (by omega)
  · by_cases e : i = k
    · rw [e, upv_s]; exact hf c hc
    · rw [upv_o e]; exact h4 c hc i (by omega)
