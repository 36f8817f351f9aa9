/-! sets of lines as masks; the class's way round -/
def mk (p : Nat → Bool) : Nat → Nat
  | 0 => 0
  | n + 1 => mk p n + (if p n then 2 ^ n else 0)
theorem mk_lt {p : Nat → Bool} : ∀ n, mk p n < 2 ^ n
  | 0 => by show 0 < 1; omega
  | n + 1 => by
    have := mk_lt (p := p) n
    show mk p n + (if p n then 2 ^ n else 0) < _
    rw [Nat.pow_succ]
    generalize 2 ^ n = t at *
    split <;> omega
theorem tb_or2 (m l i : Nat) : (m ||| 2 ^ l).testBit i = if i = l then true else m.testBit i := by
  rw [Nat.testBit_or, Nat.testBit_two_pow]
  by_cases c : i = l
  · subst c; simp
  · simp [c]; intro h; exact absurd h.symm c
theorem tb_upB (m l : Nat) : (m ||| 2 ^ l).testBit = upB m.testBit l true := by
  funext i; rw [tb_or2]; rfl
theorem mk_tb {p : Nat → Bool} : ∀ n l, (mk p n).testBit l = (decide (l < n) && p l)
  | 0, l => by show Nat.testBit 0 l = _; rw [Nat.zero_testBit]; simp
  | n + 1, l => by
    show (mk p n + (if p n then 2 ^ n else 0)).testBit l = _
    cases hp : p n
    · rw [if_neg (by decide), Nat.add_zero, mk_tb n l]
      by_cases c : l = n
      · subst c; rw [hp]; simp
      · by_cases d : l < n
        · rw [decide_eq_true d, decide_eq_true (show l < n + 1 by omega)]
        · rw [decide_eq_false d, decide_eq_false (show ¬ l < n + 1 by omega)]
    · rw [if_pos rfl, ← or_add (mk_lt n), tb_or2, mk_tb n l]
      by_cases c : l = n
      · subst c; rw [if_pos rfl, hp]; simp
      · rw [if_neg c]
        by_cases d : l < n
        · rw [decide_eq_true d, decide_eq_true (show l < n + 1 by omega)]
        · rw [decide_eq_false d, decide_eq_false (show ¬ l < n + 1 by omega)]
theorem tb_hi {m n l : Nat} (h : m < 2 ^ n) (hl : n ≤ l) : m.testBit l = false := Nat.testBit_lt_two_pow (Nat.lt_of_lt_of_le h (Nat.pow_le_pow_right (by omega) hl))
theorem tb_dm (m i : Nat) : (m.testBit i).toNat = m / 2 ^ i % 2 := by
  rw [Nat.testBit_eq_decide_div_mod_eq]
  have : m / 2 ^ i % 2 < 2 := Nat.mod_lt _ (by omega)
  by_cases c : m / 2 ^ i % 2 = 1
  · rw [decide_eq_true c, c]; rfl
  · rw [decide_eq_false c]; show 0 = _; omega
theorem pc_cnt (m : Nat) : pc m = cnt m.testBit 10 := by
  show _ = 0 + (m.testBit 0).toNat + (m.testBit 1).toNat + (m.testBit 2).toNat + (m.testBit 3).toNat + (m.testBit 4).toNat + (m.testBit 5).toNat + (m.testBit 6).toNat + (m.testBit 7).toNat + (m.testBit 8).toNat + (m.testBit 9).toNat
  simp only [tb_dm]
  unfold pc
  rw [Nat.pow_zero, Nat.div_one, Nat.zero_add]
theorem pc_cntn {m n : Nat} (h : m < 2 ^ n) (hn : n ≤ 10) : pc m = cnt m.testBit n := by
  rw [pc_cnt]; exact cnt_ext (fun l hl => tb_hi h hl) 10 hn
theorem lt1024 {m n : Nat} (h : m < 2 ^ n) (hn : n ≤ 10) : m < 1024 := Nat.lt_of_lt_of_le h (Nat.pow_le_pow_right (by omega) hn : 2 ^ n ≤ 2 ^ 10)
/-- bits of one that aren't in another -/
def adn (a g : Nat) : Nat := a ^^^ (a &&& g)
theorem adn_tb (a g i : Nat) : (adn a g).testBit i = (a.testBit i && !g.testBit i) := by
  unfold adn
  rw [Nat.testBit_xor, Nat.testBit_and]
  cases a.testBit i <;> cases g.testBit i <;> rfl
theorem andn_b (x y : BitVec 32) : x &&& (y ^^^ BitVec.allOnes 32) = x ^^^ (x &&& y) := by
  apply BitVec.eq_of_getElem_eq
  intro i hi
  rw [BitVec.getElem_and, BitVec.getElem_xor, BitVec.getElem_xor, BitVec.getElem_and, BitVec.getElem_allOnes]
  cases x[i] <;> cases y[i] <;> rfl
theorem andn_i (x y : Int32) : x &&& (y ^^^ (-1)) = x ^^^ (x &&& y) := tb_inj (by
  rw [Int32.toBitVec_and, Int32.toBitVec_xor, Int32.toBitVec_xor, Int32.toBitVec_and]
  exact andn_b x.toBitVec y.toBitVec)
theorem nI_andn (a g : Nat) : nI a &&& (nI g ^^^ (-1)) = nI (adn a g) := by
  rw [andn_i, nI_and, nI_xor]; rfl
theorem sub_lt {a m n : Nat} (h : ∀ i, a.testBit i = true → m.testBit i = true) (hm : m < 2 ^ n) : a < 2 ^ n := by
  apply Nat.lt_pow_two_of_testBit
  intro i hi
  cases e : a.testBit i
  · rfl
  · have := h i e
    rw [tb_hi hm hi] at this; exact absurd this (by decide)
theorem ne_tb {m : Nat} (h : m ≠ 0) : ∃ i, m.testBit i = true := Nat.exists_testBit_of_ne_zero h
def lb (m : Nat) : Nat := if m % 2 = 1 then 0 else if m / 2 % 2 = 1 then 1 else if m / 4 % 2 = 1 then 2 else if m / 8 % 2 = 1 then 3 else if m / 16 % 2 = 1 then 4 else if m / 32 % 2 = 1 then 5 else if m / 64 % 2 = 1 then 6 else if m / 128 % 2 = 1 then 7 else if m / 256 % 2 = 1 then 8 else 9
theorem lb_d : ∀ m, m < 1024 → m ≠ 0 → f_X4_leastOf 0 (nI m) (fun _ _ => 0, fun _ _ => 0) = some (nI (lb m)) ∧ lb m < 10 ∧ m.testBit (lb m) = true ∧ (pc m = 1 → m = 2 ^ lb m) := by decide +kernel
theorem lbX {N : Nat} {M : Mem} {m : Nat} (h : m < 1024) (h0 : m ≠ 0) : f_X4_leastOf N (nI m) M = some (nI (lb m)) := (lb_d m h h0).1
/-- lines of a point -/
def tch (G : Gr) (x : Nat) : Nat := mk (fun l => inc G l x) (gN G)
theorem tch_tb {G : Gr} {x l : Nat} : (tch G x).testBit l = (decide (l < gN G) && inc G l x) := mk_tb _ _
abbrev tbS (m : Nat) : Nat → Bool := m.testBit
theorem tch_lt {G : Gr} {x : Nat} : tch G x < 2 ^ gN G := mk_lt _
theorem tb_2 (f : Nat) : (2 ^ f).testBit = upB (fun _ => false) f true := by
  funext i
  rw [Nat.testBit_two_pow]
  unfold upB
  by_cases c : i = f
  · subst c; simp
  · rw [if_neg c]; simp; exact fun q => c q.symm
theorem sub_ne {g m : Nat} (hs : ∀ l, g.testBit l = true → m.testBit l = true) (h : g ≠ m) : ∃ l, m.testBit l = true ∧ g.testBit l = false := by
  by_cases c : ∃ l, m.testBit l = true ∧ g.testBit l = false
  · exact c
  · exfalso
    refine h (Nat.eq_of_testBit_eq (fun i => ?_))
    cases hm : m.testBit i
    · cases hg : g.testBit i
      · rfl
      · rw [hs i hg] at hm; exact absurd hm (by decide)
    · cases hg : g.testBit i
      · exact absurd ⟨i, hm, hg⟩ c
      · rfl
theorem pc_0 : pc 0 = 0 := rfl
theorem ne1 {a : Nat} (ha : a < 2 ^ 31) (h : a ≠ 1) : ¬ nI a = (1 : Int32) := fun q => h ((nI_eq (b := 1) ha (by decide)).mp q)
theorem goX {N : Nat} (hN : 2000 ≤ N) {G : Gr} {z : Int32} {ls : Nat → Int64} {M : Mem} (hG : GrOk G) (h : NetX M 1 G z ls) (ht : ∀ x, x < 6 → M.1 22 x = nI (tch G x)) {m : Nat} (hm : m < 2 ^ gN G) (h0 : m ≠ 0) : ∃ r, f_X4_goRound N 1 (nI m) M = some r ∧ ((∃ u, r = nI u ∧ u < 2 ^ gN G ∧ (∀ l, u.testBit l = true → m.testBit l = true) ∧ Cyc G m.testBit u.testBit) ∨ (r = -1 ∧ ∀ U, ¬ Cyc G m.testBit U)) := by
  have hn := hG.2.1
  have hP := hG.1
  have hm10 := lt1024 hm hn
  obtain ⟨-, l2, l3, -⟩ := lb_d m hm10 h0
  have e0 := lbX (N := N) (M := M) hm10 h0
  generalize lb m = f at *
  have hfn : f < gN G := by
    rcases Nat.lt_or_ge f (gN G) with q | q
    · exact q
    · rw [tb_hi hm q] at l3; exact absurd l3 (by decide)
  obtain ⟨-, -, k3, k4⟩ := h.2.2.2.1 f hfn
  obtain ⟨-, -, -, o4, o5⟩ := hG.2.2.1 f hfn
  have f10 : inb (nI f) 10 := inb_nI (by omega) (by decide)
  have cf : (nI f).toNatClampNeg = f := nI_clamp (by omega)
  unfold f_X4_goRound
  simp only [e0, bd_s, ck_t f10, nm_e1, cf, k4, sh1 (show f < 31 by omega), k3]
  refine lp_S (S := fun o => ∃ r, o = some r ∧ ((∃ u, r = nI u ∧ u < 2 ^ gN G ∧ (∀ l, u.testBit l = true → m.testBit l = true) ∧ Cyc G m.testBit u.testBit) ∨ (r = -1 ∧ ∀ U, ¬ Cyc G m.testBit U))) (fun n (a : Int32 × Int32 × Int32 × Int32) => ∃ x g u k, n + k = 10 ∧ a = (nI x, nI g, nI u, nI k) ∧ GoI G m.testBit (gA G f) x g.testBit u.testBit k ∧ (∀ l, u.testBit l = true → g.testBit l = true) ∧ x < 6) (fun n a rc hJ => ?_) N 10 _ ⟨gB G f, 2 ^ f, 2 ^ f, 0, rfl, rfl, ?_, fun _ q => q, by omega⟩ (by omega)
  · obtain ⟨x, g, u, k, e1, rfl, hI, hu, hx6⟩ := hJ
    have hgm : ∀ l, g.testBit l = true → m.testBit l = true := fun l hl => (hI.1.sub l hl).1
    have hg : g < 2 ^ gN G := sub_lt hgm hm
    dsimp only
    simp only [jn_e]
    by_cases c : x = gA G f
    · left
      simp only [ck_t f10, if_pos (show nI x = nI (gA G f) by rw [c]), ite_self]
      by_cases d : g = m
      · rw [if_pos (by rw [d])]
        exact ⟨_, rfl, Or.inl ⟨u, rfl, sub_lt (fun l hl => hgm l (hu l hl)) hm, fun l hl => hgm l (hu l hl), hI.acc hG c (fun l _ sl => by rw [d]; exact sl) ⟨f, hfn, l3⟩⟩⟩
      · rw [if_neg (nI_ne (by have := lt1024 hg hn; omega) (by omega) d)]
        obtain ⟨l, sl, gl⟩ := sub_ne hgm d
        have hl : l < gN G := by
          rcases Nat.lt_or_ge l (gN G) with q | q
          · exact q
          · rw [tb_hi hm q] at sl; exact absurd sl (by decide)
        exact ⟨_, rfl, Or.inr ⟨rfl, fun U => hI.rej2 c hl sl gl⟩⟩
    · have hk := hI.bd c
      have x6 : inb (nI x) 6 := inb_nI hx6 (by decide)
      have cx : (nI x).toNatClampNeg = x := nI_clamp (by omega)
      obtain ⟨w, hw⟩ : ∃ w, w = adn (m &&& tch G x) g := ⟨_, rfl⟩
      have wt : ∀ l, w.testBit l = (m.testBit l && (decide (l < gN G) && inc G l x) && !g.testBit l) := fun l => by rw [hw, adn_tb, Nat.testBit_and, tch_tb]
      have wl : w < 2 ^ gN G := sub_lt (fun i hi => by rw [wt] at hi; simp at hi; exact hi.1.1) hm
      have w10 := lt1024 wl hn
      have wc : pc w = cnt (fun l => m.testBit l && inc G l x && !g.testBit l) (gN G) := by
        rw [pc_cntn wl hn]
        exact cnt_cg _ (fun l hl => by rw [wt, decide_eq_true hl, Bool.true_and])
      rw [if_neg (show ¬ (6 : Int32) ≤ nI k from nI_ge (a := k) (b := 6) (by omega) (by decide)), if_neg (nI_ne (by omega) (by omega) c), ck_t x6]
      simp only [cx, ht x hx6, nI_and, nI_andn, ← hw, bcX w10, bd_s]
      by_cases d : pc w = 1
      · right
        have w0 : w ≠ 0 := fun q => by rw [q, pc_0] at d; omega
        obtain ⟨-, b2, b3, b4⟩ := lb_d w w10 w0
        have b4 := b4 d
        rw [if_pos (by rw [d]; rfl), lbX w10 w0, bd_s]
        generalize lb w = l at *
        have b5 := b3
        rw [wt] at b5
        simp at b5
        obtain ⟨⟨sl, hl, il⟩, gl⟩ := b5
        have l10 : inb (nI l) 10 := inb_nI (by omega) (by decide)
        have cl : (nI l).toNatClampNeg = l := nI_clamp (by omega)
        obtain ⟨-, -, q3, q4⟩ := h.2.2.2.1 l hl
        obtain ⟨-, -, -, p4, p5⟩ := hG.2.2.1 l hl
        simp only [ck_t l10, cl, q3, q4]
        have hst := hI.step hG c (by rw [← wc]; exact d) hl sl il gl
        have hnew : ∀ l', (g ||| w).testBit l' = upB g.testBit l true l' := fun l' => by rw [b4, tb_upB]
        have hgn : (g ||| w).testBit = upB g.testBit l true := funext hnew
        have u0 : u.testBit l = false := by
          cases q : u.testBit l
          · rfl
          · rw [hu l q] at gl; exact absurd gl (by decide)
        by_cases e : gA G l = x
        · rw [if_pos (by rw [e]), nI_or, nI_or, nI_1]
          have eo : oth G l x = gB G l := if_pos e
          rw [eo, decide_eq_true e, ← hgn] at hst
          refine ⟨9 - k, _, by omega, ⟨gB G l, g ||| w, u ||| w, k + 1, by omega, rfl, ?_, fun i hi => ?_, by omega⟩, rfl⟩
          · rw [show (u ||| w).testBit = upB u.testBit l true by rw [b4, tb_upB]]; exact hst
          · rw [Nat.testBit_or] at hi ⊢
            cases q : u.testBit i
            · rw [q, Bool.false_or] at hi; rw [hi, Bool.or_true]
            · rw [hu i q, Bool.true_or]
        · rw [if_neg (nI_ne (by omega) (by omega) e), nI_or, nI_1]
          have eo : oth G l x = gA G l := if_neg e
          rw [eo, decide_eq_false e, ← hgn] at hst
          have eu : upB u.testBit l false = u.testBit := by
            funext i
            unfold upB
            by_cases q : i = l
            · rw [if_pos q, q, u0]
            · rw [if_neg q]
          rw [eu] at hst
          refine ⟨9 - k, _, by omega, ⟨gA G l, g ||| w, u, k + 1, by omega, rfl, hst, fun i hi => ?_, by omega⟩, rfl⟩
          rw [Nat.testBit_or, hu i hi, Bool.true_or]
      · left
        rw [if_neg (ne1 (by have := pc_le w; omega) d)]
        exact ⟨_, rfl, Or.inr ⟨rfl, fun U => hI.rej1 c (by rw [← wc]; exact d)⟩⟩
  · rw [tb_2]; exact GoI.ini hG hfn l3
