/-! no more than 64 rings: sets of lines as sets of pairs of six points -/
def lst (p : Nat → Bool) : Nat → List Nat
  | 0 => []
  | n + 1 => if p n then n :: lst p n else lst p n
theorem lst_len {p : Nat → Bool} : ∀ n, (lst p n).length = cnt p n
  | 0 => rfl
  | n + 1 => by
    show (if p n = true then n :: lst p n else lst p n).length = cnt p n + (p n).toNat
    cases c : p n
    · rw [if_neg (by decide), lst_len n]; rfl
    · rw [if_pos rfl, List.length_cons, lst_len n]; rfl
theorem lst_mem {p : Nat → Bool} : ∀ n x, x ∈ lst p n → x < n ∧ p x = true
  | 0, x, h => absurd (show x ∈ ([] : List Nat) from h) List.not_mem_nil
  | n + 1, x, h => by
    have h' : x ∈ (if p n = true then n :: lst p n else lst p n) := h
    cases c : p n
    · rw [c, if_neg (by decide)] at h'
      have := lst_mem n x h'
      exact ⟨by omega, this.2⟩
    · rw [c, if_pos rfl] at h'
      rcases List.mem_cons.mp h' with rfl | h'
      · exact ⟨by omega, c⟩
      · have := lst_mem n x h'
        exact ⟨by omega, this.2⟩
theorem lst_nd {p : Nat → Bool} : ∀ n, (lst p n).Nodup
  | 0 => List.nodup_nil
  | n + 1 => by
    show (if p n = true then n :: lst p n else lst p n).Nodup
    cases c : p n
    · rw [if_neg (by decide)]; exact lst_nd n
    · rw [if_pos rfl]
      exact List.nodup_cons.mpr ⟨fun q => absurd (lst_mem n n q).1 (Nat.lt_irrefl _), lst_nd n⟩
theorem nodup_lenf {f : Nat → Nat} {l1 : List Nat} : ∀ l2 : List Nat, l1.Nodup → (∀ x, x ∈ l1 → ∀ y, y ∈ l1 → f x = f y → x = y) → (∀ x, x ∈ l1 → f x ∈ l2) → l1.length ≤ l2.length := by
  induction l1 with
  | nil => intro l2 _ _ _; exact Nat.zero_le _
  | cons a l ih =>
    intro l2 hn hi hs
    have hn' := List.nodup_cons.mp hn
    have ha : f a ∈ l2 := hs a (List.mem_cons_self)
    have h1 := ih (l2.erase (f a)) hn'.2 (fun x hx y hy => hi x (List.mem_cons_of_mem _ hx) y (List.mem_cons_of_mem _ hy)) (fun x hx => (List.mem_erase_of_ne (fun e : f x = f a => hn'.1 (hi x (List.mem_cons_of_mem _ hx) a List.mem_cons_self e ▸ hx))).mpr (hs x (List.mem_cons_of_mem _ hx)))
    rw [List.length_erase_of_mem ha] at h1
    have : 0 < l2.length := List.length_pos_of_mem ha
    show l.length + 1 ≤ _
    omega
def eI (a b : Nat) : Nat := b * (b - 1) / 2 + a
def eAs (j : Nat) : Nat := [0, 0, 1, 0, 1, 2, 0, 1, 2, 3, 0, 1, 2, 3, 4].getD j 9
def eBs (j : Nat) : Nat := [1, 2, 2, 3, 3, 3, 4, 4, 4, 4, 5, 5, 5, 5, 5].getD j 9
theorem eI_d : ∀ b, b < 6 → ∀ a, a < b → eI a b < 15 ∧ eAs (eI a b) = a ∧ eBs (eI a b) = b := by decide
def phi (G : Gr) (m : Nat) : Nat → Nat
  | 0 => 0
  | l + 1 => phi G m l ||| (if m.testBit l then 2 ^ eI (gA G l) (gB G l) else 0)
theorem eI_l {G : Gr} (hG : GrOk G) {l : Nat} (hl : l < gN G) : eI (gA G l) (gB G l) < 15 ∧ eAs (eI (gA G l) (gB G l)) = gA G l ∧ eBs (eI (gA G l) (gB G l)) = gB G l := by
  obtain ⟨-, -, -, o4, o5⟩ := hG.2.2.1 l hl
  have hP := hG.1
  exact eI_d _ (by omega) _ o4
theorem eI_inj {G : Gr} (hG : GrOk G) {l k : Nat} (hl : l < gN G) (hk : k < gN G) (e : eI (gA G l) (gB G l) = eI (gA G k) (gB G k)) : l = k := by
  obtain ⟨-, a2, a3⟩ := eI_l hG hl
  obtain ⟨-, b2, b3⟩ := eI_l hG hk
  rw [e] at a2 a3
  exact hG.2.2.2 l k hl hk (a2.symm.trans b2) (a3.symm.trans b3)
theorem phi_s {G : Gr} {m n j : Nat} : (phi G m (n + 1)).testBit j = ((phi G m n).testBit j || (m.testBit n && decide (j = eI (gA G n) (gB G n)))) := by
  show (phi G m n ||| (if m.testBit n then 2 ^ eI (gA G n) (gB G n) else 0)).testBit j = _
  rw [Nat.testBit_or]
  cases m.testBit n
  · rw [if_neg (by decide), Nat.zero_testBit]; simp
  · rw [if_pos rfl, Nat.testBit_two_pow]
    by_cases c : j = eI (gA G n) (gB G n)
    · subst c; simp
    · rw [decide_eq_false c, decide_eq_false (fun q => c q.symm)]; simp
theorem phi_new {G : Gr} (hG : GrOk G) {m k : Nat} (hk : k < gN G) : ∀ n, n ≤ k → (phi G m n).testBit (eI (gA G k) (gB G k)) = false
  | 0, _ => Nat.zero_testBit _
  | n + 1, h => by
    rw [phi_s, phi_new hG hk n (by omega), decide_eq_false (fun q => by have := eI_inj hG hk (show n < gN G by omega) q; omega)]
    simp
theorem phi_at {G : Gr} (hG : GrOk G) {m l : Nat} (hl : l < gN G) : ∀ n, l < n → n ≤ gN G → (phi G m n).testBit (eI (gA G l) (gB G l)) = m.testBit l
  | 0, h, _ => absurd h (Nat.not_lt_zero _)
  | n + 1, h, hn => by
    rw [phi_s]
    by_cases c : l = n
    · subst c
      rw [phi_new hG hl l (Nat.le_refl _), decide_eq_true rfl]; simp
    · rw [phi_at hG hl n (by omega) (by omega), decide_eq_false (fun q => c (eI_inj hG hl (show n < gN G by omega) q))]; simp
theorem phi_ex {G : Gr} {m j : Nat} : ∀ n, (phi G m n).testBit j = true → ∃ l, l < n ∧ m.testBit l = true ∧ j = eI (gA G l) (gB G l)
  | 0, h => by rw [show phi G m 0 = 0 from rfl, Nat.zero_testBit] at h; exact absurd h (by decide)
  | n + 1, h => by
    rw [phi_s] at h
    simp at h
    rcases h with h | ⟨h1, h2⟩
    · obtain ⟨l, l1, l2⟩ := phi_ex n h
      exact ⟨l, by omega, l2⟩
    · exact ⟨n, by omega, h1, h2⟩
/-- what is counted over lines is counted over pairs -/
theorem phi_cnt {G : Gr} (hG : GrOk G) {m : Nat} (w : Nat → Bool) : ∀ n, n ≤ gN G → cnt (fun j => (phi G m n).testBit j && w j) 15 = cnt (fun l => m.testBit l && w (eI (gA G l) (gB G l))) n
  | 0, _ => cnt_0 _ (fun j _ => by rw [show phi G m 0 = 0 from rfl, Nat.zero_testBit]; rfl)
  | n + 1, h => by
    have ih := phi_cnt hG (m := m) w n (by omega)
    show _ = cnt _ n + (m.testBit n && w (eI (gA G n) (gB G n))).toNat
    rw [← ih, cnt_upd2 (p := fun j => (phi G m n).testBit j && w j) (m := eI (gA G n) (gB G n)) (eI_l hG (show n < gN G by omega)).1 (by rw [phi_new hG (show n < gN G by omega) n (Nat.le_refl _)]; rfl) (fun j hj => by rw [phi_s, decide_eq_false hj]; simp)]
    congr 1
    rw [phi_s, phi_new hG (show n < gN G by omega) n (Nat.le_refl _), decide_eq_true rfl]; simp
def incE (y j : Nat) : Bool := decide (eAs j = y) || decide (eBs j = y)
theorem phi_dg {G : Gr} (hG : GrOk G) (m y : Nat) : cnt (fun j => (phi G m (gN G)).testBit j && incE y j) 15 = dg G m.testBit y := by
  rw [phi_cnt hG (incE y) (gN G) (Nat.le_refl _)]
  refine cnt_cg _ (fun l hl => ?_)
  obtain ⟨-, a2, a3⟩ := eI_l hG hl
  unfold incE inc
  rw [a2, a3]
