/-! the reference lays its rings -/
def ptR (G : Gr) (m : Nat) : Nat := mk (fun y => decide (0 < dg G m.testBit y)) (gP G)
def lyR (M : Mem) (i m : Nat) (f : Int32) (t : Nat) : Mem := setI (setI (setI (setI M 8 i (nI m)) 9 i f) 10 i (nI t)) 0 17 (nI (i + 1))
def DirM (G : Gr) (m : Nat) (f : Int32) : Prop := cnt m.testBit (gN G) ≠ 1 → ∃ u, f = nI (adn m u) ∧ (∀ l, u.testBit l = true → m.testBit l = true) ∧ Cyc G m.testBit u.testBit
def TkJ (G : Gr) (m s k : Nat) (a : Int32 × Int32 × Int32 × Int32) : Prop := (k = 0 ∧ a.1 = 0 ∧ ∀ U, ¬ Cyc G m.testBit U) ∨ ∃ x g u, k = cnt (fun l => m.testBit l && !g.testBit l) (gN G) + 1 ∧ a = (1, nI x, nI (adn m g), nI (adn g u)) ∧ Trl G m.testBit s x g.testBit u.testBit ∧ (∀ l, u.testBit l = true → g.testBit l = true) ∧ x < 6 ∧ (∀ y, dg G m.testBit y = 0 ∨ dg G m.testBit y = 2) ∧ 0 < dg G m.testBit s
def TkR (G : Gr) (M : Mem) (i m : Nat) (o : Option Mem) : Prop := (¬ isR G m ∧ o = some M) ∨ (isR G m ∧ ∃ f, o = some (lyR M i m f (ptR G m)) ∧ DirM G m f)
def dgo (G : Gr) (S : Nat → Bool) : Nat → Bool
  | 0 => true
  | y + 1 => dgo G S y && (decide (dg G S y = 0) || decide (dg G S y = 2))
theorem dgo_t {G : Gr} {S : Nat → Bool} : ∀ n, dgo G S n = true → ∀ y, y < n → dg G S y = 0 ∨ dg G S y = 2
  | 0, _, y, hy => absurd hy (Nat.not_lt_zero _)
  | n + 1, h, y, hy => by
    have h' : (dgo G S n && (decide (dg G S n = 0) || decide (dg G S n = 2))) = true := h
    simp at h'
    by_cases c : y = n
    · rw [c]; exact h'.2
    · exact dgo_t n h'.1 y (by omega)
theorem dgo_f {G : Gr} {S : Nat → Bool} : ∀ n, dgo G S n = false → ∃ y, y < n ∧ dg G S y ≠ 0 ∧ dg G S y ≠ 2
  | 0, h => absurd (show true = false from h) (by decide)
  | n + 1, h => by
    have h' : (dgo G S n && (decide (dg G S n = 0) || decide (dg G S n = 2))) = false := h
    cases c : dgo G S n
    · obtain ⟨y, y1, y2⟩ := dgo_f n c
      exact ⟨y, by omega, y2⟩
    · rw [c] at h'
      simp at h'
      exact ⟨n, by omega, h'⟩
theorem dg_hi {G : Gr} (hG : GrOk G) {S : Nat → Bool} {y : Nat} (h : gP G ≤ y) : dg G S y = 0 := cnt_0 _ (fun l hl => by
  obtain ⟨-, -, -, o4, o5⟩ := hG.2.2.1 l hl
  have : inc G l y = false := by simp [inc]; omega
  rw [this, Bool.and_false])
theorem adn_adn (m g l : Nat) : adn (adn m g) (2 ^ l) = adn m (g ||| 2 ^ l) := Nat.eq_of_testBit_eq (fun i => by
  rw [adn_tb, adn_tb, adn_tb, Nat.testBit_or]
  cases m.testBit i <;> cases g.testBit i <;> cases (2 ^ l).testBit i <;> rfl)
theorem adn_0 (m : Nat) : adn m 0 = m := Nat.eq_of_testBit_eq (fun i => by rw [adn_tb, Nat.zero_testBit]; simp)
theorem adn_lt {m g n : Nat} (h : m < 2 ^ n) : adn m g < 2 ^ n := sub_lt (fun i hi => by rw [adn_tb] at hi; simp at hi; exact hi.1) h
theorem adn_zero {m g : Nat} (h : adn m g = 0) {l : Nat} (hl : m.testBit l = true) : g.testBit l = true := by
  have := adn_tb m g l
  rw [h, Nat.zero_testBit, hl] at this
  simpa using this.symm
theorem tb_z : (0 : Nat).testBit = fun _ => false := funext (fun i => Nat.zero_testBit i)
theorem bB_t (b : Bool) : (bB b = 1) ↔ b = true := by cases b <;> decide
/-- the way round -/
theorem tkW {N : Nat} (hN : 2000 ≤ N) {G : Gr} {z : Int32} {ls : Nat → Int64} {M : Mem} (hG : GrOk G) (h : NetM M G z ls) {m i s : Nat} (hm : m < 2 ^ gN G) (h0 : m ≠ 0) (hi : M.1 0 17 = nI i) (hi2 : i < 200) {k : Nat} {a : Int32 × Int32 × Int32 × Int32} (hJ : TkJ G m s k a) : TkR G M i m (lp (fun (k166 : (Int32 × Int32 × Int32 × Int32) → Option (Mem)) (a166 : Int32 × Int32 × Int32 × Int32) => jn (fun (a313 : Unit) => jn (fun (a328 : Unit) => ck (inb (M.1 0 17) 200) (nm (setI M 8 (M.1 0 17).toNatClampNeg (nI m)) (fun M1 => ck (inb (M1.1 0 17) 200) (nm (setI M1 9 (M1.1 0 17).toNatClampNeg a166.2.2.2) (fun M2 => ck (inb (M2.1 0 17) 200) (nm (setI M2 10 (M2.1 0 17).toNatClampNeg (nI (ptR G m))) (fun M3 => nm (setI M3 0 17 ((M3.1 0 17) + (1 : Int32))) (fun M4 => some M4)))))))) (fun (k328 : Unit → Option (Mem)) => if a166.1 = 0 then (bd (f_X8_bits N (nI m).toInt64 M) (fun v5 => if v5 = (1 : Int32) then (k328 ()) else (some M))) else (k328 ()))) (fun (k313 : Unit → Option (Mem)) => if a166.1 = 0 then (k313 ()) else (if a166.2.2.1 = 0 then (k313 ()) else (lp (fun (k179 : Int32 → Option (Mem)) (a179 : Int32) => jn (fun (a228 : Unit) => jn (fun (a310 : Int32 × Int32 × Int32 × Int32) => k166 (a310.1, a310.2.1, a310.2.2.1, a310.2.2.2)) (fun (k310 : (Int32 × Int32 × Int32 × Int32) → Option (Mem)) => if a179 = (M.1 0 1) then (k310 ((0 : Int32), a166.2.1, a166.2.2.1, a166.2.2.2)) else (ck (inb a179 10) (jn (fun (a265 : Int32) => nm (a166.2.2.2 ||| a265) (fun v7 => nm (a166.2.2.1 &&& (((1 : Int32) <<< (a179 &&& 31)) ^^^ (-1 : Int32))) (fun v8 => ck (inb a179 10) (jn (fun (a308 : Int32) => k310 (a166.1, a308, v8, v7)) (fun (k308 : Int32 → Option (Mem)) => if (M.1 3 a179.toNatClampNeg) = a166.2.1 then (ck (inb a179 10) (k308 (M.1 4 a179.toNatClampNeg))) else (ck (inb a179 10) (k308 (M.1 3 a179.toNatClampNeg)))))))) (fun (k265 : Int32 → Option (Mem)) => if (M.1 4 a179.toNatClampNeg) = a166.2.1 then (k265 ((1 : Int32) <<< (a179 &&& 31))) else (k265 (0 : Int32))))))) (fun (k228 : Unit → Option (Mem)) => if (M.1 0 1) ≤ a179 then (k228 ()) else (bd (f_X8_has N a166.2.2.1 a179 M) (fun v9 => jn (fun (a222 : Unit) => nm (a179 + (1 : Int32)) (fun v11 => k179 v11)) (fun (k222 : Unit → Option (Mem)) => if v9 = 0 then (k222 ()) else (ck (inb a179 10) (if (M.1 3 a179.toNatClampNeg) = a166.2.1 then (k228 ()) else (ck (inb a179 10) (if (M.1 4 a179.toNatClampNeg) = a166.2.1 then (k228 ()) else (k222 ())))))))))) N (0 : Int32))))) N a) := by
  have hn := hG.2.1
  have hP := hG.1
  have hm10 := lt1024 hm hn
  have hpc := pc_cntn hm hn
  have i200 : inb (nI i) 200 := inb_nI hi2 (by decide)
  have ci : (nI i).toNatClampNeg = i := nI_clamp (by omega)
  have lay : ∀ f : Int32, (ck (inb (M.1 0 17) 200) (nm (setI M 8 (M.1 0 17).toNatClampNeg (nI m)) (fun M1 => ck (inb (M1.1 0 17) 200) (nm (setI M1 9 (M1.1 0 17).toNatClampNeg f) (fun M2 => ck (inb (M2.1 0 17) 200) (nm (setI M2 10 (M2.1 0 17).toNatClampNeg (nI (ptR G m))) (fun M3 => nm (setI M3 0 17 ((M3.1 0 17) + (1 : Int32))) (fun M4 => some M4)))))))) = some (lyR M i m f (ptR G m)) := by
    intro f
    simp only [nm_e1, setI_o (show (0 : Nat) ≠ 8 by decide), setI_o (show (0 : Nat) ≠ 9 by decide), setI_o (show (0 : Nat) ≠ 10 by decide), hi, ck_t i200, ci, nI_1]
    rfl
  have hk : k ≤ 11 := by
    rcases hJ with ⟨q, -⟩ | ⟨x, g, u, q, -⟩
    · omega
    · have := cnt_bd (p := fun l => m.testBit l && !g.testBit l) (gN G); omega
  refine lp_S (S := TkR G M i m) (TkJ G m s) (fun k a rc hJ => ?_) N k a hJ (by omega)
  rcases hJ with ⟨rfl, ha, hno⟩ | ⟨x, g, u, hkk, rfl, hT, hu, hx6, hd, hs⟩
  · left
    simp only [jn_e, if_pos ha, lay, btM1 hN hm10, bd_s]
    by_cases c : pc m = 1
    · rw [if_pos (by rw [c]; rfl)]
      exact Or.inr ⟨⟨h0, hm, Or.inl (by rw [← hpc]; exact c)⟩, _, rfl, fun q => absurd (by rw [← hpc]; exact c) q⟩
    · rw [if_neg (ne1 (by have := pc_le m; omega) c)]
      refine Or.inl ⟨fun q => ?_, rfl⟩
      rcases q.2.2 with q | ⟨U, q⟩
      · rw [← hpc] at q; exact c q
      · exact hno U q
  · dsimp only
    have hgm : ∀ l, g.testBit l = true → m.testBit l = true := fun l hl => (hT.sub l hl).1
    have hg : g < 2 ^ gN G := sub_lt hgm hm
    have ml : ∀ l, m.testBit l = true → l < gN G := fun l sl => by
      rcases Nat.lt_or_ge l (gN G) with q | q
      · exact q
      · rw [tb_hi hm q] at sl; exact absurd sl (by decide)
    obtain ⟨l0, hl0⟩ := ne_tb h0
    simp only [jn_e, if_neg (show ¬ (1 : Int32) = 0 by decide), lay]
    by_cases c0 : adn m g = 0
    · left
      rw [if_pos (by rw [c0]; rfl)]
      have e : g = m := Nat.eq_of_testBit_eq (fun j => by
        cases q : m.testBit j
        · cases q2 : g.testBit j
          · rfl
          · rw [hgm j q2] at q; exact absurd q (by decide)
        · exact adn_zero c0 q)
      have hC := hT.acc2 hG hd (fun l _ sl => by rw [e]; exact sl) ⟨l0, ml l0 hl0, hl0⟩
      exact Or.inr ⟨⟨h0, hm, Or.inr ⟨_, hC⟩⟩, _, rfl, fun _ => ⟨u, by rw [e], fun l q => by rw [← e]; exact hu l q, hC⟩⟩
    · right
      have hlf : adn m g < 2 ^ gN G := adn_lt hm
      have lf10 := lt1024 hlf hn
      rw [if_neg (nI_ne0 (by omega) (by omega))]
      refine lp_S (S := fun o => ∃ n c, n < k ∧ TkJ G m s n c ∧ o = rc c) (fun n (a : Int32) => ∃ l, l + n = gN G ∧ a = nI l ∧ ∀ j, j < l → m.testBit j = true → inc G j x = true → g.testBit j = true) (fun n a rc' hK => ?_) N (gN G) _ ⟨0, by omega, rfl, fun j hj => by omega⟩ (by omega)
      obtain ⟨l, hl, rfl, hno⟩ := hK
      rw [h.2.1]
      cases n with
      | zero =>
        left
        have e : l = gN G := by omega
        subst e
        rw [if_pos (nI_le (a := gN G) (b := gN G) (Nat.le_refl _) (by omega)), if_pos rfl]
        obtain ⟨l1, hl1⟩ := ne_tb c0
        rw [adn_tb] at hl1
        simp at hl1
        exact ⟨0, _, by omega, Or.inl ⟨rfl, rfl, fun U => hT.rej hG (fun j hj sj ij => hno j hj sj ij) (ml l1 hl1.1) hl1.1 hl1.2 hs⟩, rfl⟩
      | succ n =>
        have hln : l < gN G := by omega
        have l10 : inb (nI l) 10 := inb_nI (by omega) (by decide)
        have cl : (nI l).toNatClampNeg = l := nI_clamp (by omega)
        obtain ⟨-, -, k3, k4⟩ := h.2.2.2.1 l hln
        obtain ⟨-, -, -, o4, o5⟩ := hG.2.2.1 l hln
        rw [if_neg (nI_ge hln (by omega)), hasM (by omega) (by omega), bd_s]
        simp only [cl, k3, k4, if_neg (nI_ne (show l < 2 ^ 31 by omega) (show gN G < 2 ^ 31 by omega) (show l ≠ gN G by omega)), ck_t l10, nm_e1]
        have nxt : (m.testBit l = true → inc G l x = true → g.testBit l = true) → ∃ m' c, m' < n + 1 ∧ (∃ l', l' + m' = gN G ∧ c = nI l' ∧ ∀ j, j < l' → m.testBit j = true → inc G j x = true → g.testBit j = true) ∧ rc' (nI l + 1) = rc' c := by
          intro q
          refine ⟨n, nI (l + 1), by omega, ⟨l + 1, by omega, rfl, fun j hj sj ij => ?_⟩, by rw [nI_1]⟩
          by_cases e : j = l
          · rw [e] at sj ij ⊢; exact q sj ij
          · exact hno j (by omega) sj ij
        have e2 : (adn m g).testBit l = (m.testBit l && !g.testBit l) := adn_tb m g l
        by_cases c1 : (adn m g).testBit l = true
        rotate_left
        · right
          rw [if_pos (show bB ((adn m g).testBit l) = 0 by cases q : (adn m g).testBit l; rfl; exact absurd q c1)]
          exact nxt (fun sj _ => by
            cases q : g.testBit l
            · rw [sj, q] at e2; exact absurd (e2.trans rfl) c1
            · rfl)
        rw [if_neg (show ¬ bB ((adn m g).testBit l) = 0 by rw [c1]; decide)]
        rw [e2] at c1
        simp at c1
        obtain ⟨sl, gl⟩ := c1
        have u0 : u.testBit l = false := by
          cases q : u.testBit l
          · rfl
          · rw [hu l q] at gl; exact absurd gl (by decide)
        have hdec : cnt (fun j => m.testBit j && !(g ||| 2 ^ l).testBit j) (gN G) + 1 = cnt (fun j => m.testBit j && !g.testBit j) (gN G) := by
          have := cnt_upd (p := fun j => m.testBit j && !(g ||| 2 ^ l).testBit j) (q := fun j => m.testBit j && !g.testBit j) (m := l) (by simp [tb_or2]) (by simp [sl, gl]) (fun j hj => by show (m.testBit j && !g.testBit j) = (m.testBit j && !(g ||| 2 ^ l).testBit j); rw [tb_or2, if_neg hj]) (gN G)
          rw [if_pos hln] at this
          exact this.symm
        have hgn : (g ||| 2 ^ l).testBit = upB g.testBit l true := tb_upB g l
        have hleft : nI (adn m g) &&& (nI (2 ^ l) ^^^ -1) = nI (adn m (g ||| 2 ^ l)) := by rw [nI_andn, adn_adn]
        by_cases c2 : gA G l = x
        · left
          have il : inc G l x = true := by simp [inc, c2]
          have hB : ¬ gB G l = x := by omega
          have hst := hT.step hln sl gl il
          rw [show oth G l x = gB G l from if_pos c2, decide_eq_true c2, ← hgn, ← tb_upB u l] at hst
          rw [if_pos (by rw [c2]), if_neg (nI_ne (by omega) (by omega) hB), sh1 (show l < 31 by omega), hleft, show (0 : Int32) = nI 0 from rfl, nI_or, Nat.or_zero, if_pos (by rw [c2])]
          refine ⟨_, _, ?_, Or.inr ⟨gB G l, g ||| 2 ^ l, u ||| 2 ^ l, rfl, ?_, hst, fun j hj => ?_, by omega, hd, hs⟩, rfl⟩
          · omega
          · have : adn g u = adn (g ||| 2 ^ l) (u ||| 2 ^ l) := Nat.eq_of_testBit_eq (fun j => by
              rw [adn_tb, adn_tb, tb_or2, tb_or2]
              by_cases e : j = l
              · rw [if_pos e, if_pos e, e, gl]; rfl
              · rw [if_neg e, if_neg e])
            rw [this]
          · rw [tb_or2] at hj ⊢
            by_cases e : j = l
            · rw [if_pos e]
            · rw [if_neg e] at hj ⊢; exact hu j hj
        · rw [if_neg (nI_ne (by omega) (by omega) c2)]
          by_cases c3 : gB G l = x
          · left
            have il : inc G l x = true := by simp [inc, c3]
            have hst := hT.step hln sl gl il
            have eu : upB u.testBit l false = u.testBit := by
              funext j
              unfold upB
              by_cases q : j = l
              · rw [if_pos q, q, u0]
              · rw [if_neg q]
            rw [show oth G l x = gA G l from if_neg c2, decide_eq_false c2, ← hgn, eu] at hst
            rw [if_pos (by rw [c3]), if_pos (by rw [c3]), sh1 (show l < 31 by omega), hleft, nI_or, if_neg (nI_ne (by omega) (by omega) c2)]
            refine ⟨_, _, ?_, Or.inr ⟨gA G l, g ||| 2 ^ l, u, rfl, ?_, hst, fun j hj => ?_, by omega, hd, hs⟩, rfl⟩
            · omega
            · have : adn g u ||| 2 ^ l = adn (g ||| 2 ^ l) u := Nat.eq_of_testBit_eq (fun j => by
                rw [adn_tb, tb_or2, tb_or2, adn_tb]
                by_cases e : j = l
                · rw [if_pos e, if_pos e, e, u0]; rfl
                · rw [if_neg e, if_neg e])
              rw [this]
            · rw [tb_or2]
              by_cases e : j = l
              · rw [if_pos e]
              · rw [if_neg e]; exact hu j hj
          · right
            rw [if_neg (nI_ne (by omega) (by omega) c3)]
            exact nxt (fun _ ij => by unfold inc at ij; simp at ij; omega)
