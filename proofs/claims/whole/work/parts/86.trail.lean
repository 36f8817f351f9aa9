/-! going along lines -/
theorem cnt_upd2 {p q : Nat → Bool} {m n : Nat} (hm : m < n) (hp : p m = false) (he : ∀ l, l ≠ m → q l = p l) : cnt q n = cnt p n + (q m).toNat := by
  cases hq : q m
  · rw [cnt_cg (p := q) (q := p) n (fun l _ => by by_cases c : l = m; rw [c, hp, hq]; exact he l c)]; rfl
  · rw [cnt_upd hp hq he n, if_pos hm]; rfl
theorem cnt_ext {p : Nat → Bool} {n : Nat} (h : ∀ l, n ≤ l → p l = false) : ∀ k, n ≤ k → cnt p k = cnt p n
  | 0, hk => by have : n = 0 := by omega
                subst this; rfl
  | k + 1, hk => by
    by_cases c : n = k + 1
    · rw [c]
    · show cnt p k + _ = _
      rw [cnt_ext h k (by omega), h k (by omega)]; rfl
def upB (f : Nat → Bool) (l : Nat) (v : Bool) : Nat → Bool := fun i => if i = l then v else f i
theorem upB_s {f : Nat → Bool} {l : Nat} {v : Bool} : upB f l v l = v := if_pos rfl
theorem upB_o {f : Nat → Bool} {l i : Nat} {v : Bool} (h : i ≠ l) : upB f l v i = f i := if_neg h
def oth (G : Gr) (l x : Nat) : Nat := if gA G l = x then gB G l else gA G l
/-- a way along lines of a set from a point: where it is, which lines are gone, which of them upward -/
def Trl (G : Gr) (S : Nat → Bool) (s x : Nat) (g u : Nat → Bool) : Prop := ∀ P : Nat → (Nat → Bool) → (Nat → Bool) → Prop, P s (fun _ => false) (fun _ => false) → (∀ (x : Nat) (g u : Nat → Bool) (l : Nat), P x g u → l < gN G → S l = true → g l = false → inc G l x = true → P (oth G l x) (upB g l true) (upB u l (decide (gA G l = x)))) → P x g u
theorem Trl.nil {G : Gr} {S : Nat → Bool} {s : Nat} : Trl G S s s (fun _ => false) (fun _ => false) := fun _ h _ => h
theorem Trl.step {G : Gr} {S : Nat → Bool} {s x : Nat} {g u : Nat → Bool} {l : Nat} (h : Trl G S s x g u) (hl : l < gN G) (sl : S l = true) (gl : g l = false) (il : inc G l x = true) : Trl G S s (oth G l x) (upB g l true) (upB u l (decide (gA G l = x))) := fun P h0 h1 => h1 x g u l (h P h0 h1) hl sl gl il
theorem Trl.sub {G : Gr} {S : Nat → Bool} {s x : Nat} {g u : Nat → Bool} (h : Trl G S s x g u) : ∀ l, g l = true → S l = true ∧ l < gN G := by
  refine h (fun _ g _ => ∀ l, g l = true → S l = true ∧ l < gN G) ?_ ?_
  · intro l hl; exact absurd (show false = true from hl) (by decide)
  · intro x g u m ih hm sm gm im l hl
    by_cases c : l = m
    · rw [c]; exact ⟨sm, hm⟩
    · rw [upB_o c] at hl; exact ih l hl
theorem bal_st {G : Gr} (hG : GrOk G) {g u : Nat → Bool} {l x : Nat} (hl : l < gN G) (gl : g l = false) (il : inc G l x = true) (y : Nat) : din G (upB g l true) (upB u l (decide (gA G l = x))) y = din G g u y + (decide (oth G l x = y)).toNat ∧ dou G (upB g l true) (upB u l (decide (gA G l = x))) y = dou G g u y + (decide (x = y)).toNat := by
  have hlt := (hG.2.2.1 l hl).2.2.2.1
  unfold din dou
  constructor
  · rw [cnt_upd2 (p := fun i => g i && ent G u i y) (m := l) hl (by simp [gl]) (fun i hi => by simp [upB_o hi, ent])]
    congr 1
    rw [upB_s, Bool.true_and]
    unfold ent oth
    rw [upB_s]
    unfold inc at il
    by_cases c : gA G l = x
    · simp [c]
    · simp [c]
  · rw [cnt_upd2 (p := fun i => g i && lea G u i y) (m := l) hl (by simp [gl]) (fun i hi => by simp [upB_o hi, lea])]
    congr 1
    rw [upB_s, Bool.true_and]
    unfold lea
    rw [upB_s]
    unfold inc at il
    by_cases c : gA G l = x
    · simp [c]
    · simp [c] at il ⊢; rw [il]
theorem Trl.bal {G : Gr} (hG : GrOk G) {S : Nat → Bool} {s x : Nat} {g u : Nat → Bool} (h : Trl G S s x g u) : ∀ y, din G g u y + (decide (s = y)).toNat = dou G g u y + (decide (x = y)).toNat := by
  refine h (fun x g u => ∀ y, din G g u y + (decide (s = y)).toNat = dou G g u y + (decide (x = y)).toNat) ?_ ?_
  · intro y; unfold din dou; rw [cnt_0 _ (fun l _ => by simp), cnt_0 _ (fun l _ => by simp)]
  · intro x g u m ih hm sm gm im y
    obtain ⟨e1, e2⟩ := bal_st hG (u := u) hm gm im y
    rw [e1, e2]
    have := ih y
    omega
def Cov (G : Gr) (S C : Nat → Bool) (x : Nat) : Prop := ∀ m, m < gN G → S m = true → inc G m x = true → C m = true
theorem oth_inc {G : Gr} {l x : Nat} (_h : inc G l x = true) : inc G l (oth G l x) = true := by
  unfold inc oth at *
  by_cases c : gA G l = x
  · simp [c]
  · simp [c]
theorem Trl.con {G : Gr} {S : Nat → Bool} {s x : Nat} {g u : Nat → Bool} (h : Trl G S s x g u) {C : Nat → Bool} (hC : Cls G S C) (hs : Cov G S C s) : (∀ l, g l = true → C l = true) ∧ Cov G S C x := by
  refine h (fun x g _ => (∀ l, g l = true → C l = true) ∧ Cov G S C x) ?_ ?_
  · exact ⟨fun l hl => absurd (show false = true from hl) (by decide), hs⟩
  · intro x g u m ih hm sm gm im
    have cm : C m = true := ih.2 m hm sm im
    refine ⟨fun l hl => ?_, fun k hk sk ik => hC m k hm hk cm sk ⟨_, oth_inc im, ik⟩⟩
    by_cases c : l = m
    · rw [c]; exact cm
    · rw [upB_o c] at hl; exact ih.1 l hl
theorem din_cg {G : Gr} {S T U : Nat → Bool} (h : ∀ l, l < gN G → S l = T l) (x : Nat) : din G S U x = din G T U x := cnt_cg _ (fun l hl => by rw [h l hl])
theorem dou_cg {G : Gr} {S T U : Nat → Bool} (h : ∀ l, l < gN G → S l = T l) (x : Nat) : dou G S U x = dou G T U x := cnt_cg _ (fun l hl => by rw [h l hl])
theorem dg_cg {G : Gr} {S T : Nat → Bool} (h : ∀ l, l < gN G → S l = T l) (x : Nat) : dg G S x = dg G T x := cnt_cg _ (fun l hl => by rw [h l hl])
/-- a way round that leaves no line out is a ring -/
theorem Trl.cyc {G : Gr} (hG : GrOk G) {S : Nat → Bool} {s : Nat} {g u : Nat → Bool} (h : Trl G S s s g u) (hS : ∀ l, l < gN G → S l = true → g l = true) (hd : ∀ x, dg G S x ≤ 2) (hne : ∃ l, l < gN G ∧ S l = true) : Cyc G S u := by
  have e : ∀ l, l < gN G → S l = g l := by
    intro l hl
    cases hs : S l
    · cases hg : g l
      · rfl
      · have := (h.sub l hg).1; rw [hs] at this; exact absurd this (by decide)
    · rw [hS l hl hs]
  have hb : ∀ x, din G S u x = dou G S u x := by
    intro x
    have := h.bal hG x
    rw [din_cg e x, dou_cg e x]; omega
  refine ⟨fun x => ?_, hb, fun C hsub hC => ?_, hne⟩
  · have h1 := dg_sum hG (S := S) (U := u) x
    have h2 := hb x
    have h3 := hd x
    omega
  · by_cases c : ∃ m, m < gN G ∧ inc G m s = true ∧ C m = true
    · right
      obtain ⟨m, hm, im, cm⟩ := c
      have hcov : Cov G S C s := fun k hk sk ik => hC m k hm hk cm sk ⟨s, im, ik⟩
      exact fun l hl sl => (h.con hC hcov).1 l (hS l hl sl)
    · left
      have hD : Cls G S (fun l => S l && !C l) := by
        intro l m hl hm dl sm hs
        simp at dl ⊢
        refine ⟨sm, ?_⟩
        cases hCm : C m
        · rfl
        · obtain ⟨x, ix, iy⟩ := hs
          have := hC m l hm hl hCm dl.1 ⟨x, iy, ix⟩
          rw [this] at dl; exact absurd dl.2 (by decide)
      have hcov : Cov G S (fun l => S l && !C l) s := by
        intro m hm sm im
        simp [sm]
        cases hCm : C m
        · rfl
        · exact absurd ⟨m, hm, im, hCm⟩ c
      intro l hl
      cases hCl : C l
      · rfl
      · have := (h.con hD hcov).1 l (hS l hl (hsub l hl hCl))
        simp [hCl] at this
/-- what a point has in a part of a set -/
theorem dg_le {G : Gr} {S g : Nat → Bool} (h : ∀ l, g l = true → S l = true) (x : Nat) : dg G g x ≤ dg G S x := cnt_le _ (fun l _ hl => by simp at hl ⊢; exact ⟨h l hl.1, hl.2⟩)
theorem dg_rest {G : Gr} {S g : Nat → Bool} (h : ∀ l, g l = true → S l = true) (x : Nat) : dg G S x = dg G g x + cnt (fun l => S l && inc G l x && !g l) (gN G) := by
  unfold dg
  rw [cnt_split (p := fun l => S l && inc G l x) (q := g)]
  congr 1
  refine cnt_cg _ (fun l _ => ?_)
  cases hg : g l
  · simp
  · simp [h l hg]
theorem dg_up {G : Gr} {g : Nat → Bool} {l : Nat} (hl : l < gN G) (gl : g l = false) (y : Nat) : dg G (upB g l true) y = dg G g y + (inc G l y).toNat := by
  unfold dg
  rw [cnt_upd2 (p := fun i => g i && inc G i y) (m := l) hl (by simp [gl]) (fun i hi => by simp [upB_o hi])]
  congr 1
  rw [upB_s, Bool.true_and]
/-- a point whose lines are all in a part -/
theorem dg_full {G : Gr} {S g : Nat → Bool} (h : ∀ l, g l = true → S l = true) {x : Nat} (hx : dg G S x ≤ dg G g x) {m : Nat} (hm : m < gN G) (sm : S m = true) (im : inc G m x = true) : g m = true := by
  cases hg : g m
  · exfalso
    have h1 := dg_rest (G := G) h x
    have : 0 < cnt (fun l => S l && inc G l x && !g l) (gN G) := cnt_pos hm (by simp [sm, im, hg])
    omega
  · rfl
/-- a part that has all lines of each of its points -/
theorem cls_full {G : Gr} {S g : Nat → Bool} (h : ∀ l, g l = true → S l = true) (hx : ∀ x, 0 < dg G g x → dg G S x ≤ dg G g x) : Cls G S g := by
  intro l m hl hm gl sm hs
  obtain ⟨x, ix, iy⟩ := hs
  exact dg_full h (hx x (cnt_pos hl (by simp [gl, ix]))) hm sm iy
theorem nodup_len {l1 : List Nat} : ∀ l2 : List Nat, l1.Nodup → (∀ x, x ∈ l1 → x ∈ l2) → l1.length ≤ l2.length := by
  induction l1 with
  | nil => intro l2 _ _; exact Nat.zero_le _
  | cons a l ih =>
    intro l2 hn hs
    have hn' := List.nodup_cons.mp hn
    have ha : a ∈ l2 := hs a (List.mem_cons_self)
    have h1 := ih (l2.erase a) hn'.2 (fun x hx => (List.mem_erase_of_ne (fun e : x = a => hn'.1 (e ▸ hx))).mpr (hs x (List.mem_cons_of_mem _ hx)))
    rw [List.length_erase_of_mem ha] at h1
    have : 0 < l2.length := List.length_pos_of_mem ha
    show l.length + 1 ≤ _
    omega
theorem nodup_6 {L : List Nat} (h : L.Nodup) (h6 : ∀ y, y ∈ L → y < 6) : L.length ≤ 6 := by
  have := nodup_len (List.range 6) h (fun x hx => List.mem_range.mpr (h6 x hx))
  rw [List.length_range] at this
  exact this
