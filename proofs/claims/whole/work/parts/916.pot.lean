/-! where a turn's rates are no more than p of q, there is a colouring: greatest weights of ways -/
def aw (G : Gr) (p q t l x : Nat) : Int := if (decide (gA G l = x) ^^ t.testBit l) then ((q * gG G l : Nat) : Int) else ((q * gG G l : Nat) : Int) - p
def Adj (G : Gr) (x y : Nat) : Prop := ∃ l, l < gN G ∧ inc G l x = true ∧ oth G l x = y
noncomputable def aW (G : Gr) (p q t x y : Nat) : Int := @dite _ (Adj G x y) (Classical.propDecidable _) (fun h => aw G p q t h.choose x) (fun _ => 0)
theorem adj_uq {G : Gr} (hG : GrOk G) {l k x : Nat} (hl : l < gN G) (hk : k < gN G) (h1 : inc G l x = true) (h2 : inc G k x = true) (h3 : oth G l x = oth G k x) : l = k := by
  have o1 := (hG.2.2.1 l hl).2.2.2.1
  have o2 := (hG.2.2.1 k hk).2.2.2.1
  unfold inc at h1 h2
  unfold oth at h3
  simp at h1 h2
  exact hG.2.2.2 l k hl hk (by split at h3 <;> split at h3 <;> omega) (by split at h3 <;> split at h3 <;> omega)
theorem aW_e {G : Gr} (hG : GrOk G) {p q t l x : Nat} (hl : l < gN G) (h1 : inc G l x = true) : aW G p q t x (oth G l x) = aw G p q t l x := by
  have h : Adj G x (oth G l x) := ⟨l, hl, h1, rfl⟩
  unfold aW
  rw [dif_pos h]
  obtain ⟨k1, k2, k3⟩ := h.choose_spec
  rw [adj_uq hG k1 hl k2 h1 k3]
def IsP (G : Gr) : List Nat → Prop
  | [] => False
  | [x] => x < gP G
  | y :: x :: r => Adj G x y ∧ y ∉ x :: r ∧ IsP G (x :: r)
noncomputable def pW (G : Gr) (p q t : Nat) : List Nat → Int
  | [] => 0
  | [_] => 0
  | y :: x :: r => pW G p q t (x :: r) + aW G p q t x y
def wtS (G : Gr) (p q t : Nat) (g u : Nat → Bool) : Nat → Int
  | 0 => 0
  | l + 1 => wtS G p q t g u l + (if g l then (if (u l ^^ t.testBit l) then ((q * gG G l : Nat) : Int) else ((q * gG G l : Nat) : Int) - p) else 0)
theorem wtS_cg {G : Gr} {p q t : Nat} {g u g' u' : Nat → Bool} : ∀ n, (∀ l, l < n → g l = g' l ∧ u l = u' l) → wtS G p q t g u n = wtS G p q t g' u' n
  | 0, _ => rfl
  | n + 1, h => by
    show wtS G p q t g u n + _ = wtS G p q t g' u' n + _
    rw [wtS_cg n (fun l hl => h l (by omega)), (h n (by omega)).1, (h n (by omega)).2]
theorem wtS_up {G : Gr} {p q t l : Nat} {g u : Nat → Bool} {b : Bool} (gl : g l = false) : ∀ n, l < n → wtS G p q t (upB g l true) (upB u l b) n = wtS G p q t g u n + (if (b ^^ t.testBit l) then ((q * gG G l : Nat) : Int) else ((q * gG G l : Nat) : Int) - p)
  | 0, h => absurd h (Nat.not_lt_zero _)
  | n + 1, h => by
    show wtS G p q t (upB g l true) (upB u l b) n + (if upB g l true n then _ else _) = wtS G p q t g u n + (if g n then _ else _) + _
    by_cases c : n = l
    · subst c
      rw [wtS_cg n (g' := g) (u' := u) (fun i hi => ⟨upB_o (by omega), upB_o (by omega)⟩), upB_s, upB_s, gl, if_pos rfl, if_neg (show ¬ (false = true) by decide)]
      omega
    · rw [wtS_up gl n (by omega), upB_o c, upB_o c]
      omega
theorem wtS_m {G : Gr} {p q t m : Nat} {u : Nat → Bool} : ∀ n, ∃ k : Nat, cnt m.testBit n = alw n m u t + k ∧ wtS G p q t m.testBit u n = ((q * lnS (gG G) m n : Nat) : Int) - ((p * k : Nat) : Int)
  | 0 => ⟨0, rfl, by show (0 : Int) = ((q * 0 : Nat) : Int) - ((p * 0 : Nat) : Int); simp⟩
  | n + 1 => by
    obtain ⟨k, k1, k2⟩ := wtS_m (G := G) (p := p) (q := q) (t := t) (m := m) (u := u) n
    have f1 : cnt m.testBit (n + 1) = cnt m.testBit n + (m.testBit n).toNat := rfl
    have f2 : alw (n + 1) m u t = alw n m u t + (m.testBit n && (u n ^^ t.testBit n)).toNat := rfl
    have f3 : wtS G p q t m.testBit u (n + 1) = wtS G p q t m.testBit u n + (if m.testBit n then (if (u n ^^ t.testBit n) then ((q * gG G n : Nat) : Int) else ((q * gG G n : Nat) : Int) - p) else 0) := rfl
    have f4 : lnS (gG G) m (n + 1) = lnS (gG G) m n + (if m.testBit n then gG G n else 0) := rfl
    rw [f1, f2, f3, f4, k1, k2]
    cases m.testBit n
    · exact ⟨k, by simp, by simp⟩
    · rw [Nat.mul_add]
      cases hx : (u n ^^ t.testBit n)
      · refine ⟨k + 1, by show _ + k + 1 = _ + 0 + (k + 1); omega, ?_⟩
        rw [Nat.mul_add, Nat.mul_one]
        simp only [if_true, Bool.false_eq_true, if_false]
        omega
      · refine ⟨k, by show _ + k + 1 = _ + 1 + k; omega, ?_⟩
        simp only [if_true]
        omega
theorem Trl.self {G : Gr} {S : Nat → Bool} {s x : Nat} {g u : Nat → Bool} (h : Trl G S s x g u) : ∀ S' : Nat → Bool, (∀ l, g l = true → S' l = true) → Trl G S' s x g u := by
  refine h (fun x g u => ∀ S' : Nat → Bool, (∀ l, g l = true → S' l = true) → Trl G S' s x g u) ?_ ?_
  · intro S' _; exact Trl.nil
  · intro x g u l ih hl _ gl il S' hS
    exact (ih S' (fun i hi => hS i (by
      by_cases c : i = l
      · rw [c, upB_s]
      · rw [upB_o c]; exact hi))).step hl (hS l upB_s) gl il
theorem Cyc_cg {G : Gr} {S S' U U' : Nat → Bool} (h : Cyc G S U) (hS : ∀ l, l < gN G → S l = S' l) (hU : ∀ l, l < gN G → U l = U' l) : Cyc G S' U' := by
  obtain ⟨h1, h2, h3, l, hl, sl⟩ := h
  have e1 : ∀ x, din G S' U' x = din G S U x := fun x => cnt_cg _ (fun i hi => by unfold ent; rw [hS i hi, hU i hi])
  have e2 : ∀ x, dou G S' U' x = dou G S U x := fun x => cnt_cg _ (fun i hi => by unfold lea; rw [hS i hi, hU i hi])
  refine ⟨fun x => by rw [← dg_cg hS x]; exact h1 x, fun x => by rw [e1, e2]; exact h2 x, fun C c1 c2 => ?_, l, hl, by rw [← hS l hl]; exact sl⟩
  rcases h3 C (fun i hi ci => by rw [hS i hi]; exact c1 i hi ci) (fun i j hi hj ci sj => c2 i j hi hj ci (by rw [← hS j hj]; exact sj)) with r | r
  · exact Or.inl r
  · exact Or.inr (fun i hi si => r i hi (by rw [hS i hi]; exact si))
/-- a way as a trail -/
theorem tr_of {G : Gr} (hG : GrOk G) {p q t : Nat} : ∀ r x, IsP G (x :: r) → ∃ s g u, (x :: r).getLast? = some s ∧ Trl G (fun _ => true) s x g u ∧ (∀ y, y ∉ x :: r → dg G g y = 0) ∧ (∀ y, dg G g y ≤ 2) ∧ dg G g x ≤ 1 ∧ (r = [] → (∀ l, g l = false) ∧ s = x) ∧ (r ≠ [] → dg G g s ≤ 1 ∧ s ≠ x) ∧ s ∈ x :: r ∧ wtS G p q t g u (gN G) = pW G p q t (x :: r) ∧ ∀ x2 r', r = x2 :: r' → ∀ l, l < gN G → g l = true → inc G l x = true → oth G l x = x2
  | [], x, h => by
    refine ⟨x, fun _ => false, fun _ => false, rfl, Trl.nil, fun y _ => dg_nil y, fun y => by rw [dg_nil]; omega, by rw [dg_nil]; omega, fun _ => ⟨fun _ => rfl, rfl⟩, fun q => absurd rfl q, List.mem_cons_self, ?_, fun x2 r' e => by cases e⟩
    show wtS G p q t (fun _ => false) (fun _ => false) (gN G) = 0
    have : ∀ n, wtS G p q t (fun _ => false) (fun _ => false) n = 0 := by
      intro n
      induction n with
      | zero => rfl
      | succ n ih => show _ + (if false = true then _ else _) = (0 : Int); rw [ih]; rfl
    exact this _
  | x2 :: r', x, h => by
    obtain ⟨⟨l, hl, il, ol⟩, hx, hP⟩ := h
    obtain ⟨s, g, u, g1, g2, g3, g4, g5, g6, g7, g8, g9, g10⟩ := tr_of hG (p := p) (q := q) (t := t) r' x2 hP
    have ix : inc G l x = true := by rw [← ol]; exact oth_inc il
    have hne : x ≠ x2 := fun e => hx (by rw [e]; exact List.mem_cons_self)
    have gl : g l = false := by
      cases c : g l
      · rfl
      · exfalso
        have := g3 x hx
        have : 0 < dg G g x := cnt_pos hl (by simp [c, ix])
        omega
    have d : ∀ y, dg G (upB g l true) y = dg G g y + (inc G l y).toNat := fun y => dg_up hl gl y
    have hinc : ∀ y, inc G l y = true → y = x2 ∨ y = x := fun y hy => by rw [← ol]; exact inc_oth il hy
    have hno : ∀ y, y ≠ x2 → y ≠ x → inc G l y = false := fun y q1 q2 => by
      cases c : inc G l y
      · rfl
      · rcases hinc y c with q | q
        · exact absurd q q1
        · exact absurd q q2
    have hT := g2.step hl rfl gl il
    rw [ol] at hT
    have hsx : s ≠ x := fun e => hx (by rw [← e]; exact g8)
    refine ⟨s, _, _, by rw [List.getLast?_cons_cons]; exact g1, hT, fun y hy => ?_, fun y => ?_, ?_, fun q => absurd q (by simp), fun _ => ⟨?_, hsx⟩, List.mem_cons_of_mem _ g8, ?_, fun y2 r2 e l' hl' gl' il' => ?_⟩
    · have q1 : y ≠ x := fun e => hy (by rw [e]; exact List.mem_cons_self)
      have q2 : y ∉ x2 :: r' := fun e => hy (List.mem_cons_of_mem _ e)
      have q3 : y ≠ x2 := fun e => q2 (by rw [e]; exact List.mem_cons_self)
      rw [d, hno y q3 q1, g3 y q2]; rfl
    · rw [d]
      by_cases q1 : y = x2
      · rw [q1, il]; show _ + 1 ≤ 2; omega
      · by_cases q2 : y = x
        · rw [q2, g3 x hx]; cases inc G l x <;> simp
        · rw [hno y q1 q2]; exact g4 y
    · rw [d, g3 x hx, ix]; exact Nat.le_refl _
    · rw [d]
      by_cases q1 : r' = []
      · obtain ⟨e1, e2⟩ := g6 q1
        have : dg G g s = 0 := cnt_0 _ (fun i _ => by rw [e1 i]; rfl)
        rw [this]; cases inc G l s <;> simp
      · obtain ⟨e1, e2⟩ := g7 q1
        rw [hno s e2 hsx]; exact e1
    · rw [wtS_up gl (gN G) hl, g9]
      show _ = pW G p q t (x2 :: r') + aW G p q t x2 x
      rw [← ol, aW_e hG hl il]; rfl
    · injection e with e1 e2
      subst e1
      by_cases c : l' = l
      · rw [c, ← ol]; exact oth_oth hG hl il
      · rw [upB_o c] at gl'
        have := g3 x hx
        have : 0 < dg G g x := cnt_pos hl' (by simp [gl', il'])
        omega
/-- ways round weigh nothing, or less -/
theorem cy_le {G : Gr} (hG : GrOk G) {p q t : Nat} (hok : ∀ i, i < rN G → rL G (gG G) i * q ≤ p * rA G t i) {x x2 s : Nat} {r : List Nat} (h : IsP G (x :: x2 :: r)) (hs : (x :: x2 :: r).getLast? = some s) (hne : s ≠ x2) (ha : Adj G x s) : pW G p q t (x :: x2 :: r) + aW G p q t x s ≤ 0 := by
  have hn := hG.2.1
  obtain ⟨s', g, u, g1, g2, g3, g4, g5, g6, g7, g8, g9, g10⟩ := tr_of hG (p := p) (q := q) (t := t) (x2 :: r) x h
  have es : s' = s := by rw [hs] at g1; injection g1 with e; exact e.symm
  subst es
  obtain ⟨l, hl, il, ol⟩ := ha
  have gl : g l = false := by
    cases c : g l
    · rfl
    · exact absurd (ol.symm.trans (g10 x2 r rfl l hl c il)) hne
  have d : ∀ y, dg G (upB g l true) y = dg G g y + (inc G l y).toNat := fun y => dg_up hl gl y
  have hT := g2.step hl rfl gl il
  rw [ol] at hT
  have hd : ∀ y, dg G (upB g l true) y ≤ 2 := fun y => by
    rw [d]
    cases c : inc G l y
    · exact g4 y
    · show _ + 1 ≤ 2
      rcases inc_oth il c with q1 | q1
      · rw [q1]; omega
      · rw [q1, ol]
        have := (g7 (by simp)).1
        omega
  have hC := (hT.self _ (fun i hi => hi)).cyc hG (fun i _ hi => hi) hd ⟨l, hl, upB_s⟩
  generalize hU : upB u l (decide (gA G l = x)) = U at *
  generalize hS : upB g l true = S at *
  obtain ⟨m, hm⟩ : ∃ m, m = mk S (gN G) := ⟨_, rfl⟩
  have hmt : ∀ i, i < gN G → S i = m.testBit i := fun i hi => by rw [hm, mk_tb, decide_eq_true hi, Bool.true_and]
  have hCm : Cyc G m.testBit U := Cyc_cg hC hmt (fun _ _ => rfl)
  have hmlt : m < 2 ^ gN G := by rw [hm]; exact mk_lt _
  have hR : isR G m := ⟨hCm.nz, hmlt, Or.inr ⟨U, hCm⟩⟩
  have hi := isR_lt hR
  have hrS := rS_at hR
  have h3 := hCm.three hG
  have hk := hok _ hi
  unfold rL lnR rA alR at hk
  rw [hrS, if_neg (by omega), Nat.mul_one, ← few_dir hG hCm (dirR_c ⟨_, hCm⟩)] at hk
  obtain ⟨k, k1, k2⟩ := wtS_m (G := G) (p := p) (q := q) (t := t) (m := m) (u := U) (gN G)
  have hf : fewN (gN G) m U t ≤ k := by
    unfold fewN
    rw [if_neg (by omega), k1]
    split <;> omega
  have hk2 : lnS (gG G) m (gN G) * q ≤ p * k := Nat.le_trans hk (Nat.mul_le_mul_left p hf)
  rw [Nat.mul_comm] at hk2
  have hw : wtS G p q t S U (gN G) = wtS G p q t m.testBit U (gN G) := wtS_cg _ (fun i hi => ⟨hmt i hi, rfl⟩)
  have hsum : pW G p q t (x :: x2 :: r) + aW G p q t x s' = wtS G p q t S U (gN G) := by
    rw [← hS, ← hU, wtS_up gl (gN G) hl, g9, ← ol, aW_e hG hl il]; rfl
  rw [hsum, hw, k2]
  omega
theorem cy_two {G : Gr} (hG : GrOk G) {p q t : Nat} (hok : ∀ i, i < rN G → rL G (gG G) i * q ≤ p * rA G t i) {x s : Nat} (ha : Adj G x s) : aW G p q t s x + aW G p q t x s ≤ 0 := by
  obtain ⟨l, hl, il, ol⟩ := ha
  have hR := isR_2 (G := G) hl
  have hi := isR_lt hR
  have hrS := rS_at hR
  have hk := hok _ hi
  have hon := (oth_ne hG hl il).1
  unfold rL lnR rA alR fewN at hk
  rw [hrS, if_pos (cnt_2 hl), if_pos (cnt_2 hl), lnS_2, if_pos hl, Nat.mul_one] at hk
  have is' : inc G l s = true := by rw [← ol]; exact oth_inc il
  have os : oth G l s = x := by rw [← ol]; exact oth_oth hG hl il
  have e1 : aW G p q t s x = aw G p q t l s := by
    have := aW_e hG (p := p) (q := q) (t := t) hl is'
    rw [os] at this; exact this
  have e2 : aW G p q t x s = aw G p q t l x := by rw [← ol, aW_e hG hl il]
  rw [e1, e2]
  have hm : gG G l * 2 * q = 2 * (q * gG G l) := by ac_rfl
  unfold aw
  have hxs : decide (gA G l = s) = !decide (gA G l = x) := by
    have o4 := (hG.2.2.1 l hl).2.2.2.1
    unfold inc at il is'
    simp at il is'
    rw [ol] at hon
    by_cases c : gA G l = x
    · rw [decide_eq_true c, decide_eq_false (by omega)]; rfl
    · rw [decide_eq_false c, decide_eq_true (by omega)]; rfl
  rw [hxs]
  cases decide (gA G l = x) <;> cases t.testBit l <;> simp <;> omega
theorem IsP.hd {G : Gr} (hG : GrOk G) : ∀ r x, IsP G (x :: r) → x < gP G
  | [], _, h => h
  | _ :: _, _, h => by
    obtain ⟨⟨l, hl, il, ol⟩, -, -⟩ := h
    rw [← ol]; exact inc_lt hG hl (oth_inc il)
theorem IsP.nd {G : Gr} (hG : GrOk G) : ∀ r x, IsP G (x :: r) → (x :: r).Nodup ∧ ∀ y, y ∈ x :: r → y < gP G
  | [], x, h => ⟨by simp, fun y hy => by simp at hy; rw [hy]; exact h⟩
  | x2 :: r, x, h => by
    obtain ⟨h1, h2, h3⟩ := h
    obtain ⟨q1, q2⟩ := IsP.nd hG r x2 h3
    refine ⟨List.nodup_cons.mpr ⟨h2, q1⟩, fun y hy => ?_⟩
    rcases List.mem_cons.mp hy with e | e
    · rw [e]; exact IsP.hd hG (x2 :: r) x ⟨h1, h2, h3⟩
    · exact q2 y e
theorem aW_bd {G : Gr} (hG : GrOk G) {p q t : Nat} (hq : q ≤ 6) {x y : Nat} (h : Adj G x y) : aW G p q t x y ≤ 30 := by
  obtain ⟨l, hl, il, ol⟩ := h
  rw [← ol, aW_e hG hl il]
  have hg := gG_in hG hl
  have hqg : q * gG G l ≤ 6 * 5 := Nat.mul_le_mul hq hg.2
  unfold aw
  split <;> omega
theorem pW_bd {G : Gr} (hG : GrOk G) {p q t : Nat} (hq : q ≤ 6) : ∀ r x, IsP G (x :: r) → pW G p q t (x :: r) ≤ 30 * r.length
  | [], _, _ => by show (0 : Int) ≤ 30 * ((0 : Nat) : Int); omega
  | x2 :: r, x, h => by
    obtain ⟨h1, -, h3⟩ := h
    have ih := pW_bd hG (p := p) (q := q) (t := t) hq r x2 h3
    have := aW_bd hG (p := p) (q := q) (t := t) hq h1
    show pW G p q t (x2 :: r) + aW G p q t x2 x ≤ 30 * ((r.length + 1 : Nat) : Int)
    omega
theorem pW_app {G : Gr} {p q t v : Nat} {r : List Nat} : ∀ s : List Nat, pW G p q t (s ++ v :: r) = pW G p q t (s ++ [v]) + pW G p q t (v :: r)
  | [] => by show pW G p q t (v :: r) = (0 : Int) + pW G p q t (v :: r); omega
  | [y] => by show pW G p q t (v :: r) + aW G p q t v y = (0 + aW G p q t v y) + _; omega
  | y :: x :: s => by
    have := pW_app (G := G) (p := p) (q := q) (t := t) (v := v) (r := r) (x :: s)
    show pW G p q t (x :: s ++ v :: r) + aW G p q t x y = (pW G p q t (x :: s ++ [v]) + aW G p q t x y) + _
    rw [this]; omega
theorem IsP.app {G : Gr} (hG : GrOk G) {v : Nat} {r : List Nat} : ∀ s : List Nat, IsP G (s ++ v :: r) → IsP G (v :: r) ∧ IsP G (s ++ [v])
  | [], h => ⟨h, IsP.hd hG r v h⟩
  | [y], h => by
    obtain ⟨h1, h2, h3⟩ := h
    exact ⟨h3, h1, fun q => h2 (by simp at q; rw [q]; exact List.mem_cons_self), IsP.hd hG r v h3⟩
  | y :: x :: s, h => by
    obtain ⟨h1, h2, h3⟩ := h
    obtain ⟨q1, q2⟩ := IsP.app hG (v := v) (r := r) (x :: s) h3
    refine ⟨q1, h1, fun q => h2 ?_, q2⟩
    simp at q ⊢
    rcases q with q | q | q
    · exact Or.inl q
    · exact Or.inr (Or.inl q)
    · exact Or.inr (Or.inr (Or.inl q))
/-- the greatest weight of ways to a point -/
theorem pot {G : Gr} (hG : GrOk G) {p q t : Nat} (hq : q ≤ 6) {v : Nat} (hv : v < gP G) : ∃ D : Int, (∃ L, IsP G (v :: L) ∧ pW G p q t (v :: L) = D) ∧ ∀ L, IsP G (v :: L) → pW G p q t (v :: L) ≤ D := by
  have hP := hG.1
  have bd : ∀ L, IsP G (v :: L) → pW G p q t (v :: L) ≤ 200 := fun L h => by
    have h1 := pW_bd hG (p := p) (q := q) (t := t) hq L v h
    obtain ⟨n1, n2⟩ := IsP.nd hG L v h
    have := nodup_6 n1 (fun y hy => by have := n2 y hy; omega)
    simp at this
    omega
  obtain ⟨k, ⟨L, l1, l2⟩, k2⟩ := pk_least (fun k => ∃ L, IsP G (v :: L) ∧ pW G p q t (v :: L) = 200 - (k : Int)) ⟨200, [], hv, rfl⟩
  refine ⟨200 - (k : Int), ⟨L, l1, l2⟩, fun L' h' => ?_⟩
  have h1 := bd L' h'
  rcases Int.lt_or_le (200 - (k : Int)) (pW G p q t (v :: L')) with c | c
  · exact absurd ⟨L', h', by omega⟩ (k2 (200 - pW G p q t (v :: L')).toNat (by omega))
  · exact c
theorem pot_le {G : Gr} (hG : GrOk G) {p q t : Nat} (hok : ∀ i, i < rN G → rL G (gG G) i * q ≤ p * rA G t i) {D : Nat → Int} (hD : ∀ v, v < gP G → (∃ L, IsP G (v :: L) ∧ pW G p q t (v :: L) = D v) ∧ ∀ L, IsP G (v :: L) → pW G p q t (v :: L) ≤ D v) {u v : Nat} (hu : u < gP G) (hv : v < gP G) (ha : Adj G u v) : D u + aW G p q t u v ≤ D v := by
  obtain ⟨⟨L, l1, l2⟩, -⟩ := hD u hu
  obtain ⟨-, hmax⟩ := hD v hv
  have huv : u ≠ v := by
    obtain ⟨l, hl, il, ol⟩ := ha
    have := (oth_ne hG hl il).1
    rw [ol] at this
    exact fun e => this e.symm
  by_cases c : v ∈ u :: L
  · obtain ⟨s, r, e⟩ := List.append_of_mem c
    cases s with
    | nil =>
      injection e with e1 e2
      exact absurd e1 huv
    | cons u' s =>
      have e0 : u' = u := by injection e with e1 e2; exact e1.symm
      subst e0
      rw [e] at l1 l2
      obtain ⟨q1, q2⟩ := IsP.app hG (u' :: s) l1
      rw [pW_app (u' :: s)] at l2
      have hv2 := hmax r q1
      have hcy : pW G p q t (u' :: s ++ [v]) + aW G p q t u' v ≤ 0 := by
        cases s with
        | nil =>
          show (0 + aW G p q t v u') + aW G p q t u' v ≤ 0
          have := cy_two hG hok ha
          omega
        | cons x2 s =>
          have hne : v ≠ x2 := fun ev => by
            obtain ⟨-, -, q3⟩ := q2
            obtain ⟨n1, -⟩ := IsP.nd hG (s ++ [v]) x2 q3
            have := (List.nodup_cons.mp n1).1
            exact this (by simp [ev])
          exact cy_le hG hok q2 (show (u' :: x2 :: (s ++ [v])).getLast? = some v by rw [show u' :: x2 :: (s ++ [v]) = (u' :: x2 :: s) ++ [v] from rfl, List.getLast?_append]; rfl) hne ha
      omega
  · have h1 : IsP G (v :: u :: L) := ⟨ha, c, l1⟩
    have h2 := hmax (u :: L) h1
    have h3 : pW G p q t (v :: u :: L) = pW G p q t (u :: L) + aW G p q t u v := rfl
    omega
theorem md {p a b k d : Int} (hp : 0 < p) (ha : 0 ≤ a) (ha2 : a < p) (hb : 0 ≤ b) (hb2 : b < p) (hd : 0 < d) (hd2 : d < p) (h : d = p * k + b - a) : b - a = d ∨ a - b = p - d := by
  rcases Int.lt_or_le k 0 with c | c
  · have : p * k ≤ p * (-1) := Int.mul_le_mul_of_nonneg_left (by omega) (by omega)
    omega
  · rcases Int.lt_or_le 1 k with c2 | c2
    · have : p * 2 ≤ p * k := Int.mul_le_mul_of_nonneg_left (by omega) (by omega)
      omega
    · rcases (show k = 0 ∨ k = 1 by omega) with e | e
      · subst e; left; omega
      · subst e; right; omega
theorem pot_col {G : Gr} (hG : GrOk G) {p q t : Nat} (hp : 1 ≤ p) (hq1 : 1 ≤ q) (hq : q ≤ 6) (hok : ∀ i, i < rN G → rL G (gG G) i * q ≤ p * rA G t i) : ∃ c, Col G p q (fun _ _ => true) c := by
  have hex : ∀ v, ∃ D : Int, v < gP G → (∃ L, IsP G (v :: L) ∧ pW G p q t (v :: L) = D) ∧ ∀ L, IsP G (v :: L) → pW G p q t (v :: L) ≤ D := fun v => by
    by_cases c : v < gP G
    · obtain ⟨D, hD⟩ := pot hG (p := p) (q := q) (t := t) hq c
      exact ⟨D, fun _ => hD⟩
    · exact ⟨0, fun h => absurd h c⟩
  obtain ⟨D, hD⟩ : ∃ D : Nat → Int, ∀ v, v < gP G → (∃ L, IsP G (v :: L) ∧ pW G p q t (v :: L) = D v) ∧ ∀ L, IsP G (v :: L) → pW G p q t (v :: L) ≤ D v := ⟨fun v => (hex v).choose, fun v hv => (hex v).choose_spec hv⟩
  have hp0 : (0 : Int) < p := by omega
  refine ⟨fun v => (D v % (p : Int)).toNat, fun i hi => ⟨?_, rfl⟩, fun l hl => ?_⟩
  · have h1 := Int.emod_nonneg (D i) (show (p : Int) ≠ 0 by omega)
    have h2 := Int.emod_lt_of_pos (D i) hp0
    show (D i % (p : Int)).toNat < p
    omega
  · show apt (D (gA G l) % (p : Int)).toNat (D (gB G l) % (p : Int)).toNat p (q * gG G l) = true
    obtain ⟨-, -, -, o4, o5⟩ := hG.2.2.1 l hl
    have hg := gG_in hG hl
    have hqg : 1 * 1 ≤ q * gG G l := Nat.mul_le_mul hq1 hg.1
    have iA : inc G l (gA G l) = true := by simp [inc]
    have iB : inc G l (gB G l) = true := by simp [inc]
    have oA : oth G l (gA G l) = gB G l := by unfold oth; rw [if_pos rfl]
    have oB : oth G l (gB G l) = gA G l := by unfold oth; rw [if_neg (by omega)]
    have h1 := pot_le hG hok hD (show gA G l < gP G by omega) o5 ⟨l, hl, iA, oA⟩
    have h2 := pot_le hG hok hD o5 (show gA G l < gP G by omega) ⟨l, hl, iB, oB⟩
    have e1 : aW G p q t (gA G l) (gB G l) = aw G p q t l (gA G l) := by rw [← oA, aW_e hG hl iA]
    have e2 : aW G p q t (gB G l) (gA G l) = aw G p q t l (gB G l) := by
      have := aW_e hG (p := p) (q := q) (t := t) hl iB
      rw [oB] at this; exact this
    rw [e1] at h1
    rw [e2] at h2
    unfold aw at h1 h2
    rw [decide_eq_true rfl] at h1
    rw [decide_eq_false (show ¬ gA G l = gB G l by omega)] at h2
    have a1 := Int.emod_nonneg (D (gA G l)) (show (p : Int) ≠ 0 by omega)
    have a2 := Int.emod_lt_of_pos (D (gA G l)) hp0
    have b1 := Int.emod_nonneg (D (gB G l)) (show (p : Int) ≠ 0 by omega)
    have b2 := Int.emod_lt_of_pos (D (gB G l)) hp0
    have a3 := Int.mul_ediv_add_emod (D (gA G l)) p
    have b3 := Int.mul_ediv_add_emod (D (gB G l)) p
    generalize hr : q * gG G l = r at *
    generalize D (gA G l) = DA at *
    generalize D (gB G l) = DB at *
    generalize ha : DA % (p : Int) = a at *
    generalize hb : DB % (p : Int) = b at *
    generalize DA / (p : Int) = i at *
    generalize DB / (p : Int) = j at *
    have hdis : (p : Int) * (j - i) = p * j - p * i := Int.mul_sub _ _ _
    have hdis2 : (p : Int) * (i - j) = p * i - p * j := Int.mul_sub _ _ _
    show (decide (r ≤ dst a.toNat b.toNat) && decide (r + dst a.toNat b.toNat ≤ p)) = true
    unfold dst
    cases ht : t.testBit l
    · rw [ht] at h1 h2
      simp at h1 h2 ⊢
      have := md (p := p) (a := a) (b := b) (k := j - i) (d := DB - DA) hp0 a1 a2 b1 b2 (by omega) (by omega) (by rw [hdis]; omega)
      omega
    · rw [ht] at h1 h2
      simp at h1 h2 ⊢
      have := md (p := p) (a := b) (b := a) (k := i - j) (d := DA - DB) hp0 b1 b2 a1 a2 (by omega) (by omega) (by rw [hdis2]; omega)
      omega
