/-! counting; rings as sets of lines -/
def cnt (p : Nat → Bool) : Nat → Nat
  | 0 => 0
  | n + 1 => cnt p n + (p n).toNat
theorem cnt_cg {p q : Nat → Bool} : ∀ n, (∀ l, l < n → p l = q l) → cnt p n = cnt q n
  | 0, _ => rfl
  | n + 1, h => by show cnt p n + _ = cnt q n + _; rw [cnt_cg n (fun l hl => h l (by omega)), h n (by omega)]
theorem cnt_0 {p : Nat → Bool} : ∀ n, (∀ l, l < n → p l = false) → cnt p n = 0
  | 0, _ => rfl
  | n + 1, h => by show cnt p n + _ = 0; rw [cnt_0 n (fun l hl => h l (by omega)), h n (by omega)]; rfl
theorem cnt_upd {p q : Nat → Bool} {m : Nat} (hp : p m = false) (hq : q m = true) (he : ∀ l, l ≠ m → q l = p l) : ∀ n, cnt q n = cnt p n + (if m < n then 1 else 0)
  | 0 => rfl
  | n + 1 => by
    show cnt q n + _ = cnt p n + _ + _
    rw [cnt_upd hp hq he n]
    by_cases c : m = n
    · subst c; rw [hp, hq, if_neg (by omega), if_pos (by omega)]; rfl
    · rw [he n (fun q => c q.symm)]
      by_cases d : m < n
      · rw [if_pos d, if_pos (by omega)]; omega
      · rw [if_neg d, if_neg (by omega)]; omega
theorem cnt_le {p q : Nat → Bool} : ∀ n, (∀ l, l < n → p l = true → q l = true) → cnt p n ≤ cnt q n
  | 0, _ => Nat.le_refl _
  | n + 1, h => by
    show cnt p n + _ ≤ cnt q n + _
    have h1 := cnt_le n (fun l hl => h l (by omega))
    have h2 := h n (by omega)
    cases hp : p n
    · have : (false).toNat = 0 := rfl
      omega
    · rw [h2 hp]; omega
theorem cnt_bd {p : Nat → Bool} : ∀ n, cnt p n ≤ n
  | 0 => Nat.le_refl _
  | n + 1 => by
    show cnt p n + _ ≤ n + 1
    have h1 := cnt_bd (p := p) n
    have : (p n).toNat ≤ 1 := by cases p n <;> decide
    omega
theorem cnt_split {p q : Nat → Bool} : ∀ n, cnt p n = cnt (fun l => p l && q l) n + cnt (fun l => p l && !q l) n
  | 0 => rfl
  | n + 1 => by
    show cnt p n + _ = cnt _ n + _ + (cnt _ n + _)
    have := cnt_split (p := p) (q := q) n
    cases h1 : p n <;> cases h2 : q n <;> simp [h1, h2] <;> omega
theorem cnt_pos {p : Nat → Bool} {n l : Nat} (hl : l < n) (h : p l = true) : 0 < cnt p n := by
  induction n with
  | zero => omega
  | succ n ih =>
    show 0 < cnt p n + _
    by_cases c : l = n
    · subst c; rw [h]; show 0 < _ + 1; omega
    · have := ih (by omega); omega
theorem cnt_ex {p : Nat → Bool} : ∀ n, 0 < cnt p n → ∃ l, l < n ∧ p l = true
  | 0, h => by have : cnt p 0 = 0 := rfl
               omega
  | n + 1, h => by
    cases hp : p n
    · have h2 : 0 < cnt p n + (p n).toNat := h
      rw [hp] at h2
      obtain ⟨l, l1, l2⟩ := cnt_ex n h2
      exact ⟨l, by omega, l2⟩
    · exact ⟨n, by omega, hp⟩
theorem cnt_mono {p : Nat → Bool} : ∀ n m, m ≤ n → cnt p m ≤ cnt p n
  | 0, m, h => by have : m = 0 := by omega
                  subst this; exact Nat.le_refl _
  | n + 1, m, h => by
    by_cases c : m = n + 1
    · rw [c]; exact Nat.le_refl _
    · have := cnt_mono (p := p) n m (by omega)
      show cnt p m ≤ cnt p n + _
      omega
/-- two of them -/
theorem cnt_two {p : Nat → Bool} {n l m : Nat} (hl : l < n) (hm : m < n) (hne : l ≠ m) (h1 : p l = true) (h2 : p m = true) : 2 ≤ cnt p n := by
  have e := cnt_upd (p := fun i => p i && decide (i ≠ l)) (q := p) (m := l) (by simp) h1 (fun i hi => by simp [hi]) n
  rw [if_pos hl] at e
  have : 0 < cnt (fun i => p i && decide (i ≠ l)) n := cnt_pos hm (by simp [h2, Ne.symm hne])
  omega
theorem cnt_three {p : Nat → Bool} {n l m k : Nat} (hl : l < n) (hm : m < n) (hk : k < n) (hne : l ≠ m) (hne2 : l ≠ k) (hne3 : m ≠ k) (h1 : p l = true) (h2 : p m = true) (h3 : p k = true) : 3 ≤ cnt p n := by
  have e := cnt_upd (p := fun i => p i && decide (i ≠ l)) (q := p) (m := l) (by simp) h1 (fun i hi => by simp [hi]) n
  rw [if_pos hl] at e
  have : 2 ≤ cnt (fun i => p i && decide (i ≠ l)) n := cnt_two hm hk hne3 (by simp [h2, Ne.symm hne]) (by simp [h3, Ne.symm hne2])
  omega
/-- a second one, where there are two -/
theorem cnt_other {p : Nat → Bool} {n l : Nat} (h1 : p l = true) (hl : l < n) (h : 2 ≤ cnt p n) : ∃ m, m < n ∧ m ≠ l ∧ p m = true := by
  have e := cnt_upd (p := fun i => p i && decide (i ≠ l)) (q := p) (m := l) (by simp) h1 (fun i hi => by simp [hi]) n
  rw [if_pos hl] at e
  obtain ⟨m, m1, m2⟩ := cnt_ex (p := fun i => p i && decide (i ≠ l)) n (by omega)
  simp at m2
  exact ⟨m, m1, m2.2, m2.1⟩
def inc (G : Gr) (l x : Nat) : Bool := decide (gA G l = x) || decide (gB G l = x)
/-- how many lines of a set a point has -/
def dg (G : Gr) (S : Nat → Bool) (x : Nat) : Nat := cnt (fun l => S l && inc G l x) (gN G)
/-- a line, gone up or down, comes to a point -/
def ent (G : Gr) (U : Nat → Bool) (l x : Nat) : Bool := if U l then decide (gB G l = x) else decide (gA G l = x)
def lea (G : Gr) (U : Nat → Bool) (l x : Nat) : Bool := if U l then decide (gA G l = x) else decide (gB G l = x)
def din (G : Gr) (S U : Nat → Bool) (x : Nat) : Nat := cnt (fun l => S l && ent G U l x) (gN G)
def dou (G : Gr) (S U : Nat → Bool) (x : Nat) : Nat := cnt (fun l => S l && lea G U l x) (gN G)
def shr (G : Gr) (l m : Nat) : Prop := ∃ x, inc G l x = true ∧ inc G m x = true
/-- with a line all lines of the set that hang together with it -/
def Cls (G : Gr) (S C : Nat → Bool) : Prop := ∀ l m, l < gN G → m < gN G → C l = true → S m = true → shr G l m → C m = true
def Con (G : Gr) (S : Nat → Bool) : Prop := ∀ C : Nat → Bool, (∀ l, l < gN G → C l = true → S l = true) → Cls G S C → (∀ l, l < gN G → C l = false) ∨ ∀ l, l < gN G → S l = true → C l = true
def Cyc (G : Gr) (S U : Nat → Bool) : Prop := (∀ x, dg G S x = 0 ∨ dg G S x = 2) ∧ (∀ x, din G S U x = dou G S U x) ∧ Con G S ∧ ∃ l, l < gN G ∧ S l = true
theorem dg_sum {G : Gr} (hG : GrOk G) {S U : Nat → Bool} (x : Nat) : dg G S x = din G S U x + dou G S U x := by
  have hlt : ∀ l, l < gN G → gA G l < gB G l := fun l hl => (hG.2.2.1 l hl).2.2.2.1
  have key : ∀ n, n ≤ gN G → cnt (fun l => S l && inc G l x) n = cnt (fun l => S l && ent G U l x) n + cnt (fun l => S l && lea G U l x) n := by
    intro n
    induction n with
    | zero => intro _; rfl
    | succ n ih =>
      intro hn
      show cnt _ n + (S n && inc G n x).toNat = cnt _ n + (S n && ent G U n x).toNat + (cnt _ n + (S n && lea G U n x).toNat)
      rw [ih (by omega)]
      have h := hlt n (by omega)
      have : (S n && inc G n x).toNat = (S n && ent G U n x).toNat + (S n && lea G U n x).toNat := by
        unfold inc ent lea
        cases S n <;> cases U n <;> by_cases c1 : gA G n = x <;> by_cases c2 : gB G n = x <;> simp [c1, c2] <;> omega
      omega
  exact key (gN G) (Nat.le_refl _)
theorem inc_or {G : Gr} {U : Nat → Bool} {l x : Nat} (h : inc G l x = true) : ent G U l x = true ∨ lea G U l x = true := by
  unfold inc at h; unfold ent lea
  cases U l <;> simp at h ⊢ <;> omega
theorem ent_inc {G : Gr} {U : Nat → Bool} {l x : Nat} (h : ent G U l x = true) : inc G l x = true := by
  unfold inc; unfold ent at h
  cases hU : U l <;> rw [hU] at h <;> simp at h ⊢ <;> omega
theorem lea_inc {G : Gr} {U : Nat → Bool} {l x : Nat} (h : lea G U l x = true) : inc G l x = true := by
  unfold inc; unfold lea at h
  cases hU : U l <;> rw [hU] at h <;> simp at h ⊢ <;> omega
/-- at a point of a ring one of its two lines comes, the other one goes -/
theorem Cyc.alt {G : Gr} (hG : GrOk G) {S U : Nat → Bool} (h : Cyc G S U) {l m x : Nat} (hl : l < gN G) (hm : m < gN G) (hne : l ≠ m) (sl : S l = true) (sm : S m = true) (il : inc G l x = true) (im : inc G m x = true) : ent G U m x = !ent G U l x := by
  obtain ⟨h1, h2, -⟩ := h
  have e := dg_sum hG (S := S) (U := U) x
  have e2 := h2 x
  have d2 : 2 ≤ dg G S x := cnt_two hl hm hne (by simp [sl, il]) (by simp [sm, im])
  have h3 := h1 x
  cases a : ent G U l x <;> cases b : ent G U m x
  · exfalso
    have : 2 ≤ dou G S U x := cnt_two hl hm hne (by rcases inc_or (U := U) il with q | q; rw [a] at q; exact absurd q (by decide); simp [sl, q]) (by rcases inc_or (U := U) im with q | q; rw [b] at q; exact absurd q (by decide); simp [sm, q])
    omega
  · rfl
  · rfl
  · exfalso
    have : 2 ≤ din G S U x := cnt_two hl hm hne (by simp [sl, a]) (by simp [sm, b])
    omega
theorem ent_eq {G : Gr} (hG : GrOk G) {U V : Nat → Bool} {l x : Nat} (hl : l < gN G) (il : inc G l x = true) : (ent G U l x = ent G V l x) ↔ U l = V l := by
  have := (hG.2.2.1 l hl).2.2.2.1
  unfold inc at il; unfold ent
  cases U l <;> cases V l <;> simp at il ⊢ <;> omega
/-- a ring is gone round one way or the other -/
theorem Cyc.uniq {G : Gr} (hG : GrOk G) {S U V : Nat → Bool} (h : Cyc G S U) (h' : Cyc G S V) : (∀ l, l < gN G → S l = true → U l = V l) ∨ (∀ l, l < gN G → S l = true → U l = !V l) := by
  have hc := h.2.2.1 (fun l => S l && (U l == V l)) (fun l _ hl => by simp at hl; exact hl.1) (fun l m hl hm cl sm hs => by
    simp at cl ⊢
    refine ⟨sm, ?_⟩
    obtain ⟨x, il, im⟩ := hs
    by_cases c : l = m
    · rw [← c]; exact cl.2
    · have a1 := h.alt hG hl hm c cl.1 sm il im
      have a2 := h'.alt hG hl hm c cl.1 sm il im
      have a3 := (ent_eq hG (U := U) (V := V) hl il).mpr cl.2
      exact (ent_eq hG hm im).mp (by rw [a1, a2, a3]))
  rcases hc with hc | hc
  · right
    intro l hl sl
    have := hc l hl
    simp [sl] at this
    cases hU : U l <;> cases hV : V l <;> simp_all
  · left
    intro l hl sl
    have := hc l hl sl
    simp at this
    exact this.2
/-- a ring has three lines or more -/
theorem Cyc.three {G : Gr} (hG : GrOk G) {S U : Nat → Bool} (h : Cyc G S U) : 3 ≤ cnt S (gN G) := by
  obtain ⟨h1, h2, h3, l, hl, sl⟩ := h
  have ia : inc G l (gA G l) = true := by simp [inc]
  have ib : inc G l (gB G l) = true := by simp [inc]
  have da : 2 ≤ dg G S (gA G l) := by
    have : 0 < dg G S (gA G l) := cnt_pos hl (by simp [sl, ia])
    have := h1 (gA G l); omega
  have db : 2 ≤ dg G S (gB G l) := by
    have : 0 < dg G S (gB G l) := cnt_pos hl (by simp [sl, ib])
    have := h1 (gB G l); omega
  obtain ⟨m, hm, m1, m2⟩ := cnt_other (p := fun i => S i && inc G i (gA G l)) (by simp [sl, ia]) hl da
  obtain ⟨k, hk, k1, k2⟩ := cnt_other (p := fun i => S i && inc G i (gB G l)) (by simp [sl, ib]) hl db
  simp at m2 k2
  have hmk : m ≠ k := by
    intro e
    subst e
    have hlo := (hG.2.2.1 l hl).2.2.2.1
    have hmo := (hG.2.2.1 m hm).2.2.2.1
    have e1 := m2.2
    have e2 := k2.2
    unfold inc at e1 e2
    simp at e1 e2
    have : m = l := hG.2.2.2 m l hm hl (by omega) (by omega)
    exact m1 this
  exact cnt_three hl hm hk (Ne.symm m1) (Ne.symm k1) hmk sl m2.1 k2.1
/-- gaps -/
def gapN (k f a b : Nat) : Nat := if k = 1 then f + 1 else if k = 2 then (if f ≤ 2 then 1 else f - 1) else if k = 3 then b - a else if k = 4 then (if (a + b) % 2 = 0 then 2 else f) else f
abbrev gG (G : Gr) (l : Nat) : Nat := gapN (gK G l) (gF G l) (gA G l) (gB G l)
/-! rings of a net in their order, rates of turns, ratio: what both sides find -/
def nth (p : Nat → Bool) : Nat → Nat → Nat
  | 0, _ => 0
  | n + 1, i => if i < cnt p n then nth p n i else n
theorem nth_ok {p : Nat → Bool} : ∀ n i, i < cnt p n → nth p n i < n ∧ p (nth p n i) = true ∧ cnt p (nth p n i) = i
  | 0, i, h => absurd h (Nat.not_lt_zero _)
  | n + 1, i, h => by
    show (if i < cnt p n then nth p n i else n) < n + 1 ∧ p (if i < cnt p n then nth p n i else n) = true ∧ cnt p (if i < cnt p n then nth p n i else n) = i
    by_cases c : i < cnt p n
    · rw [if_pos c]
      obtain ⟨h1, h2, h3⟩ := nth_ok n i c
      exact ⟨by omega, h2, h3⟩
    · rw [if_neg c]
      have h' : i < cnt p n + (p n).toNat := h
      cases hp : p n
      · rw [hp] at h'; exact absurd h' c
      · rw [hp] at h'
        have e : (true).toNat = 1 := rfl
        exact ⟨by omega, rfl, by omega⟩
theorem nth_at {p : Nat → Bool} {m : Nat} (hm : p m = true) : ∀ n, m < n → nth p n (cnt p m) = m
  | 0, h => absurd h (Nat.not_lt_zero _)
  | n + 1, h => by
    show (if cnt p m < cnt p n then nth p n (cnt p m) else n) = m
    by_cases c : m = n
    · subst c; rw [if_neg (Nat.lt_irrefl _)]
    · have hlt : m < n := by omega
      have h1 : cnt p (m + 1) ≤ cnt p n := cnt_mono n (m + 1) hlt
      have h2 : cnt p (m + 1) = cnt p m + 1 := by show cnt p m + (p m).toNat = _; rw [hm]; rfl
      rw [if_pos (by omega)]
      exact nth_at hm n hlt
theorem nth_lt {p : Nat → Bool} {n i j : Nat} (hij : i < j) (hj : j < cnt p n) : nth p n i < nth p n j := by
  obtain ⟨a1, a2, a3⟩ := nth_ok (p := p) n i (by omega)
  obtain ⟨b1, b2, b3⟩ := nth_ok (p := p) n j hj
  rcases Nat.lt_or_ge (nth p n i) (nth p n j) with h | h
  · exact h
  · have := cnt_mono (p := p) _ _ h
    omega
def isR (G : Gr) (m : Nat) : Prop := m ≠ 0 ∧ m < 2 ^ gN G ∧ (cnt m.testBit (gN G) = 1 ∨ ∃ U, Cyc G m.testBit U)
noncomputable def isRb (G : Gr) (m : Nat) : Bool := @decide (isR G m) (Classical.propDecidable _)
theorem isRb_t {G : Gr} {m : Nat} : isRb G m = true ↔ isR G m := by
  unfold isRb
  exact @decide_eq_true_iff _ (Classical.propDecidable _)
/-- how many rings, each of them -/
noncomputable def rN (G : Gr) : Nat := cnt (isRb G) (2 ^ gN G)
noncomputable def rS (G : Gr) (i : Nat) : Nat := nth (isRb G) (2 ^ gN G) i
/-- one of the two ways round -/
noncomputable def dirR (G : Gr) (m : Nat) : Nat → Bool := @dite _ (∃ U, Cyc G m.testBit U) (Classical.propDecidable _) (fun h => h.choose) (fun _ => fun _ => false)
theorem dirR_c {G : Gr} {m : Nat} (h : ∃ U, Cyc G m.testBit U) : Cyc G m.testBit (dirR G m) := by
  unfold dirR
  rw [dif_pos h]
  exact h.choose_spec
def lnS (g : Nat → Nat) (m : Nat) : Nat → Nat
  | 0 => 0
  | l + 1 => lnS g m l + (if m.testBit l then g l else 0)
/-- length, by gaps -/
def lnR (n : Nat) (g : Nat → Nat) (m : Nat) : Nat := lnS g m n * (if cnt m.testBit n = 1 then 2 else 1)
/-- lines of a ring that are gone along, one way round -/
def alw (n m : Nat) (U : Nat → Bool) (t : Nat) : Nat := cnt (fun l => m.testBit l && (U l ^^ t.testBit l)) n
def fewN (n m : Nat) (U : Nat → Bool) (t : Nat) : Nat := if cnt m.testBit n = 1 then 1 else (if alw n m U t ≤ cnt m.testBit n - alw n m U t then alw n m U t else cnt m.testBit n - alw n m U t)
noncomputable def alR (G : Gr) (m t : Nat) : Nat := fewN (gN G) m (dirR G m) t
noncomputable def rL (G : Gr) (g : Nat → Nat) (i : Nat) : Nat := lnR (gN G) g (rS G i)
noncomputable def rA (G : Gr) (t i : Nat) : Nat := alR G (rS G i) t
/-- the greatest rate so far: its ring and 1, above, below -/
def wst (sk : Nat → Bool) (len al : Nat → Nat) : Nat → Nat × Nat × Nat
  | 0 => (0, 0, 1)
  | i + 1 => if sk i = true ∨ len i * (wst sk len al i).2.2 ≤ (wst sk len al i).2.1 * al i then wst sk len al i else (i + 1, len i, al i)
def crc (sk : Nat → Bool) (al : Nat → Nat) : Nat → Bool
  | 0 => false
  | i + 1 => crc sk al i || (!sk i && decide (al i = 0))
/-- the least rate so far -/
def rtf (cr : Nat → Bool) (ab : Nat → Nat × Nat) : Nat → Nat × Nat
  | 0 => (1, 0)
  | t + 1 => if cr t = true ∨ (rtf cr ab t).1 * (ab t).2 ≤ (ab t).1 * (rtf cr ab t).2 then rtf cr ab t else ab t
def noS : Nat → Bool := fun _ => false
noncomputable def crG (G : Gr) (t : Nat) : Bool := crc noS (rA G t) (rN G)
noncomputable def wsG (G : Gr) (t : Nat) : Nat × Nat × Nat := wst noS (rL G (gG G)) (rA G t) (rN G)
noncomputable def rtG (G : Gr) (t : Nat) : Nat × Nat := rtf (crG G) (fun t => (wsG G t).2) t
def red (x : Nat × Nat) : Nat × Nat := (x.1 / Nat.gcd x.1 x.2, x.2 / Nat.gcd x.1 x.2)
noncomputable def rat (G : Gr) : Nat × Nat := if gN G = 0 then (1, 1) else red (rtG G (2 ^ gN G))
/-- what the class's book has of a turn -/
noncomputable def wcd (G : Gr) (t : Nat) : Int32 := if crG G t = true then -1 else if (wsG G t).1 = 0 then -2 else nI ((wsG G t).1 - 1)
def DirOk (G : Gr) (m u : Nat) : Prop := (∀ l, u.testBit l = true → m.testBit l = true) ∧ (cnt m.testBit (gN G) = 1 ∧ u = m ∨ Cyc G m.testBit u.testBit)
def RgX (M : Mem) (G : Gr) : Prop := M.1 19 0 = nI (rN G) ∧ M.1 19 7 = nI (2 ^ gN G) ∧ ∀ i, i < rN G → M.1 20 i = nI (rS G i) ∧ M.1 21 i = nI (rL G (gG G) i) ∧ M.1 23 i = nI (cnt (rS G i).testBit (gN G)) ∧ ∃ u, M.1 24 i = nI u ∧ DirOk G (rS G i) u
def RtX (M : Mem) (G : Gr) : Prop := M.1 19 3 = nI (rat G).1 ∧ M.1 19 4 = nI (rat G).2 ∧ ∀ t, t < 2 ^ gN G → M.1 25 t = wcd G t
