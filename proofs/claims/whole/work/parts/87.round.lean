/-! the class's way round -/
def GoI (G : Gr) (S : Nat → Bool) (s x : Nat) (g u : Nat → Bool) (k : Nat) : Prop := Trl G S s x g u ∧ (∀ y, y ≠ s → y ≠ x → dg G g y = 0 ∨ dg G g y = 2 ∧ dg G S y = 2) ∧ (x ≠ s → dg G g x = 1 ∧ dg G g s = 1) ∧ (x = s → dg G g s = 2) ∧ ∃ L : List Nat, L.Nodup ∧ (∀ y, y ∈ L → y < 6 ∧ 0 < dg G g y) ∧ (x ≠ s → L.length = k + 2)
theorem dg_nil {G : Gr} (y : Nat) : dg G (fun _ => false) y = 0 := cnt_0 _ (fun l _ => by simp)
theorem GoI.ini {G : Gr} (hG : GrOk G) {S : Nat → Bool} {l : Nat} (hl : l < gN G) (sl : S l = true) : GoI G S (gA G l) (gB G l) (upB (fun _ => false) l true) (upB (fun _ => false) l true) 0 := by
  obtain ⟨-, -, -, h4, h5⟩ := hG.2.2.1 l hl
  have hP := hG.1
  have t := Trl.step (G := G) (S := S) (s := gA G l) (l := l) Trl.nil hl sl rfl (by simp [inc])
  have eo : oth G l (gA G l) = gB G l := if_pos rfl
  rw [eo, show decide (gA G l = gA G l) = true by simp] at t
  have d : ∀ y, dg G (upB (fun _ => false) l true) y = (inc G l y).toNat := fun y => by rw [dg_up hl rfl, dg_nil, Nat.zero_add]
  have ia : inc G l (gA G l) = true := by simp [inc]
  have ib : inc G l (gB G l) = true := by simp [inc]
  refine ⟨t, fun y h1 h2 => Or.inl ?_, fun _ => ⟨?_, ?_⟩, fun q => by omega, [gA G l, gB G l], ?_, fun y hy => ?_, fun _ => rfl⟩
  · rw [d, show inc G l y = false by simp [inc]; omega]; rfl
  · rw [d, ib]; rfl
  · rw [d, ia]; rfl
  · simp; omega
  · simp at hy
    rcases hy with rfl | rfl
    · rw [d, ia]; exact ⟨by omega, by decide⟩
    · rw [d, ib]; exact ⟨by omega, by decide⟩
theorem oth_ne {G : Gr} (hG : GrOk G) {l x : Nat} (hl : l < gN G) (_h : inc G l x = true) : oth G l x ≠ x ∧ oth G l x < 6 := by
  obtain ⟨-, -, -, h4, h5⟩ := hG.2.2.1 l hl
  have hP := hG.1
  unfold oth
  split <;> omega
theorem inc_oth {G : Gr} {l x y : Nat} (h : inc G l x = true) (hy : inc G l y = true) : y = x ∨ y = oth G l x := by
  unfold inc at h hy; unfold oth
  simp at h hy
  split <;> omega
theorem GoI.step {G : Gr} (hG : GrOk G) {S : Nat → Bool} {s x : Nat} {g u : Nat → Bool} {k l : Nat} (h : GoI G S s x g u k) (hx : x ≠ s) (hc : cnt (fun l => S l && inc G l x && !g l) (gN G) = 1) (hl : l < gN G) (sl : S l = true) (il : inc G l x = true) (gl : g l = false) : GoI G S s (oth G l x) (upB g l true) (upB u l (decide (gA G l = x))) (k + 1) := by
  obtain ⟨h1, h2, h3, h4, L, L1, L2, L3⟩ := h
  obtain ⟨dx, ds⟩ := h3 hx
  have sub : ∀ l, g l = true → S l = true := fun l hl => (h1.sub l hl).1
  have dSx : dg G S x = 2 := by have := dg_rest (G := G) sub x; omega
  have d : ∀ y, dg G (upB g l true) y = dg G g y + (inc G l y).toNat := fun y => dg_up hl gl y
  obtain ⟨on, o6⟩ := oth_ne hG hl il
  have io : inc G l (oth G l x) = true := oth_inc il
  have d0 : oth G l x ≠ s → dg G g (oth G l x) = 0 := by
    intro q
    rcases h2 _ q on with r | ⟨r1, r2⟩
    · exact r
    · have := dg_full (G := G) sub (show dg G S (oth G l x) ≤ dg G g (oth G l x) by omega) hl sl io
      rw [gl] at this; exact absurd this (by decide)
  refine ⟨h1.step hl sl gl il, fun y y1 y2 => ?_, fun q => ⟨?_, ?_⟩, fun q => ?_, ?_⟩
  · by_cases c : y = x
    · subst c
      right
      rw [d, il, dx]
      exact ⟨rfl, dSx⟩
    · have : inc G l y = false := by
        cases e : inc G l y
        · rfl
        · rcases inc_oth il e with r | r
          · exact absurd r c
          · exact absurd r y2
      rw [d, this]
      exact h2 y y1 c
  · rw [d, io, d0 q]; rfl
  · have : inc G l s = false := by
      cases e : inc G l s
      · rfl
      · rcases inc_oth il e with r | r
        · exact absurd r.symm hx
        · exact absurd r.symm q
    rw [d, this, ds]; rfl
  · rw [d, ← q, io, q, ds]; rfl
  · by_cases c : oth G l x = s
    · exact ⟨L, L1, fun y hy => ⟨(L2 y hy).1, by rw [d]; have := (L2 y hy).2; omega⟩, fun q => absurd c q⟩
    · refine ⟨oth G l x :: L, List.nodup_cons.mpr ⟨fun hm => ?_, L1⟩, fun y hy => ?_, fun _ => by show L.length + 1 = _; rw [L3 hx]⟩
      · have := (L2 _ hm).2
        rw [d0 c] at this; omega
      · rcases List.mem_cons.mp hy with rfl | hy
        · exact ⟨o6, by rw [d, io]; show 0 < _ + 1; omega⟩
        · exact ⟨(L2 y hy).1, by rw [d]; have := (L2 y hy).2; omega⟩
theorem GoI.bd {G : Gr} {S : Nat → Bool} {s x : Nat} {g u : Nat → Bool} {k : Nat} (h : GoI G S s x g u k) (hx : x ≠ s) : k ≤ 4 := by
  obtain ⟨-, -, -, -, L, L1, L2, L3⟩ := h
  have := nodup_6 L1 (fun y hy => (L2 y hy).1)
  have := L3 hx
  omega
theorem GoI.acc {G : Gr} (hG : GrOk G) {S : Nat → Bool} {s x : Nat} {g u : Nat → Bool} {k : Nat} (h : GoI G S s x g u k) (hx : x = s) (hS : ∀ l, l < gN G → S l = true → g l = true) (hne : ∃ l, l < gN G ∧ S l = true) : Cyc G S u := by
  obtain ⟨h1, h2, h3, h4, -⟩ := h
  subst hx
  have e : ∀ l, l < gN G → S l = g l := by
    intro l hl
    cases hs : S l
    · cases hg : g l
      · rfl
      · have := (h1.sub l hg).1; rw [hs] at this; exact absurd this (by decide)
    · rw [hS l hl hs]
  refine h1.cyc hG hS (fun y => ?_) hne
  rw [dg_cg e y]
  by_cases c : y = x
  · rw [c, h4 rfl]; omega
  · rcases h2 y c c with r | ⟨r, -⟩ <;> omega
theorem GoI.rej1 {G : Gr} {S U : Nat → Bool} {s x : Nat} {g u : Nat → Bool} {k : Nat} (h : GoI G S s x g u k) (hx : x ≠ s) (hc : cnt (fun l => S l && inc G l x && !g l) (gN G) ≠ 1) : ¬ Cyc G S U := by
  intro hC
  obtain ⟨h1, h2, h3, h4, -⟩ := h
  have sub : ∀ l, g l = true → S l = true := fun l hl => (h1.sub l hl).1
  have := dg_rest (G := G) sub x
  have := (h3 hx).1
  have := hC.1 x
  omega
theorem GoI.rej2 {G : Gr} {S U : Nat → Bool} {s x : Nat} {g u : Nat → Bool} {k l : Nat} (h : GoI G S s x g u k) (hx : x = s) (hl : l < gN G) (sl : S l = true) (gl : g l = false) : ¬ Cyc G S U := by
  intro hC
  obtain ⟨h1, h2, h3, h4, -⟩ := h
  subst hx
  have sub : ∀ l, g l = true → S l = true := fun l hl => (h1.sub l hl).1
  have hcl : Cls G S g := cls_full sub (fun y hy => by
    by_cases c : y = x
    · rw [c, h4 rfl]; have := hC.1 x; omega
    · rcases h2 y c c with r | ⟨r1, r2⟩ <;> omega)
  rcases hC.2.2.1 g (fun l _ hl => sub l hl) hcl with q | q
  · have d2 := h4 rfl
    obtain ⟨m, m1, m2⟩ := cnt_ex (p := fun l => g l && inc G l x) (gN G) (by unfold dg at d2; omega)
    simp [q m m1] at m2
  · have := q l hl sl
    rw [gl] at this; exact absurd this (by decide)
/-! the reference's way round: all points have two lines or none -/
theorem Trl.par {G : Gr} (hG : GrOk G) {S : Nat → Bool} {s x : Nat} {g u : Nat → Bool} (h : Trl G S s x g u) (y : Nat) : (dg G g y + (decide (s = y)).toNat + (decide (x = y)).toNat) % 2 = 0 := by
  have h1 := dg_sum hG (S := g) (U := u) y
  have h2 := h.bal hG y
  omega
theorem Trl.acc2 {G : Gr} (hG : GrOk G) {S : Nat → Bool} {s x : Nat} {g u : Nat → Bool} (h : Trl G S s x g u) (hd : ∀ y, dg G S y = 0 ∨ dg G S y = 2) (hS : ∀ l, l < gN G → S l = true → g l = true) (hne : ∃ l, l < gN G ∧ S l = true) : Cyc G S u := by
  have e : ∀ l, l < gN G → S l = g l := by
    intro l hl
    cases hs : S l
    · cases hg : g l
      · rfl
      · have := (h.sub l hg).1; rw [hs] at this; exact absurd this (by decide)
    · rw [hS l hl hs]
  have hx : x = s := by
    by_cases c : x = s
    · exact c
    · have h1 := h.par hG x
      have h2 := hd x
      rw [dg_cg e x] at h2
      rw [decide_eq_false (fun q : s = x => c q.symm), decide_eq_true (rfl : x = x)] at h1
      have e0 : (false).toNat = 0 := rfl
      have e1 : (true).toNat = 1 := rfl
      omega
  subst hx
  exact h.cyc hG hS (fun y => by have := hd y; omega) hne
/-- where it can't go on, a line is left -/
theorem Trl.rej {G : Gr} (hG : GrOk G) {S U : Nat → Bool} {s x : Nat} {g u : Nat → Bool} {l : Nat} (h : Trl G S s x g u) (hstuck : ∀ m, m < gN G → S m = true → inc G m x = true → g m = true) (hl : l < gN G) (sl : S l = true) (gl : g l = false) (hs : 0 < dg G S s) : ¬ Cyc G S U := by
  intro hC
  have sub : ∀ l, g l = true → S l = true := fun l hl => (h.sub l hl).1
  have hx : dg G g x = dg G S x := by
    have h1 := dg_rest (G := G) sub x
    have : cnt (fun l => S l && inc G l x && !g l) (gN G) = 0 := cnt_0 _ (fun m hm => by
      cases sm : S m
      · simp
      · cases im : inc G m x
        · simp
        · simp [hstuck m hm sm im])
    omega
  have hxs : x = s := by
    by_cases c : x = s
    · exact c
    · have h1 := h.par hG x
      have h2 := hC.1 x
      rw [decide_eq_false (fun q : s = x => c q.symm), decide_eq_true (rfl : x = x)] at h1
      have e0 : (false).toNat = 0 := rfl
      have e1 : (true).toNat = 1 := rfl
      omega
  subst hxs
  have hcl : Cls G S g := cls_full sub (fun y hy => by
    have h1 := h.par hG y
    have h2 := hC.1 y
    have h3 := dg_le (G := G) sub y
    omega)
  rcases hC.2.2.1 g (fun l _ hl => sub l hl) hcl with q | q
  · obtain ⟨m, m1, m2⟩ := cnt_ex (p := fun l => g l && inc G l x) (gN G) (by unfold dg at hx; show 0 < _; rw [hx]; exact hs)
    simp [q m m1] at m2
  · have := q l hl sl
    rw [gl] at this; exact absurd this (by decide)
/-- no more lines than points -/
def sm (f : Nat → Nat) : Nat → Nat
  | 0 => 0
  | n + 1 => sm f n + f n
theorem sm_add (f g : Nat → Nat) : ∀ n, sm (fun y => f y + g y) n = sm f n + sm g n
  | 0 => rfl
  | n + 1 => by show sm _ n + (f n + g n) = sm f n + f n + (sm g n + g n); rw [sm_add f g n]; omega
theorem sm_le {f g : Nat → Nat} : ∀ n, (∀ y, y < n → f y ≤ g y) → sm f n ≤ sm g n
  | 0, _ => Nat.le_refl _
  | n + 1, h => by have h1 := sm_le n (fun y hy => h y (by omega)); have h2 := h n (by omega); show sm f n + _ ≤ sm g n + _; omega
theorem sm_cg {f g : Nat → Nat} : ∀ n, (∀ y, y < n → f y = g y) → sm f n = sm g n
  | 0, _ => rfl
  | n + 1, h => by show sm f n + _ = sm g n + _; rw [sm_cg n (fun y hy => h y (by omega)), h n (by omega)]
theorem sm_c (c : Nat) : ∀ n, sm (fun _ => c) n = c * n
  | 0 => rfl
  | n + 1 => by show sm _ n + c = _; rw [sm_c c n, Nat.mul_succ]
theorem sm_one (a : Nat) : ∀ n, sm (fun y => (decide (a = y)).toNat) n = if a < n then 1 else 0
  | 0 => rfl
  | n + 1 => by
    show sm _ n + (decide (a = n)).toNat = _
    rw [sm_one a n]
    by_cases c : a = n
    · subst c; simp
    · by_cases d : a < n
      · rw [if_pos d, if_pos (by omega), decide_eq_false c]; rfl
      · rw [if_neg d, if_neg (by omega), decide_eq_false c]; rfl
theorem dg_all {G : Gr} (hG : GrOk G) (S : Nat → Bool) : sm (dg G S) (gP G) = 2 * cnt S (gN G) := by
  have key : ∀ n, n ≤ gN G → sm (fun y => cnt (fun l => S l && inc G l y) n) (gP G) = 2 * cnt S n := by
    intro n
    induction n with
    | zero => intro _; show sm (fun _ => 0) _ = 0; rw [sm_c, Nat.zero_mul]
    | succ n ih =>
      intro hn
      obtain ⟨-, -, -, h4, h5⟩ := hG.2.2.1 n (by omega)
      show sm (fun y => cnt _ n + (S n && inc G n y).toNat) _ = 2 * (cnt S n + _)
      rw [sm_add, ih (by omega)]
      have : sm (fun y => (S n && inc G n y).toNat) (gP G) = 2 * (S n).toNat := by
        cases S n
        · show sm (fun _ => 0) _ = _; rw [sm_c, Nat.zero_mul]; rfl
        · have e : sm (fun y => (true && inc G n y).toNat) (gP G) = sm (fun y => (decide (gA G n = y)).toNat + (decide (gB G n = y)).toNat) (gP G) := sm_cg _ (fun y _ => by
            unfold inc
            by_cases c1 : gA G n = y <;> by_cases c2 : gB G n = y <;> simp [c1, c2] <;> omega)
          rw [e, sm_add, sm_one, sm_one, if_pos (by omega), if_pos h5]; rfl
      omega
  exact key (gN G) (Nat.le_refl _)
theorem Cyc.most {G : Gr} (hG : GrOk G) {S U : Nat → Bool} (h : Cyc G S U) : cnt S (gN G) ≤ gP G := by
  have h1 := dg_all hG S
  have h2 : sm (dg G S) (gP G) ≤ sm (fun _ => 2) (gP G) := sm_le _ (fun y _ => by have := h.1 y; omega)
  rw [sm_c] at h2
  omega
