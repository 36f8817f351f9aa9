/-! lines come, change, go -/
def fgt (M : Mem) : Mem := setI (setI M 19 5 0) 19 6 0
theorem fgt_e {N : Nat} {M : Mem} : f_X4_forget N M = some (fgt M) := by
  unfold f_X4_forget
  rw [ck_t (Or.inl rfl), nm_e1, ck_t (Or.inl rfl), nm_e1]; rfl
theorem fgt_o {M : Mem} {a : Nat} (h : a ≠ 19) : (fgt M).1 a = M.1 a := by unfold fgt; rw [setI_o h, setI_o h]
theorem fgt_Bk {M M' : Mem} {G : Gr} (h : M'.1 19 = (fgt M).1 19) : Bk M' G := Bk.zero (by rw [h]; simp [fgt, setI_1]) (by rw [h]; simp [fgt, setI_1])
def Jnd (G : Gr) (a b : Nat) : Prop := ∃ l, l < gN G ∧ gA G l = a ∧ gB G l = b
abbrev mn (a b : Nat) : Nat := if a ≤ b then a else b
abbrev mx (a b : Nat) : Nat := if a < b then b else a
theorem jnX_1 {N c : Nat} (hN : 2000 ≤ N) {G : Gr} {z : Int32} {ls : Nat → Int64} {M : Mem} (hG : GrOk G) (h : NetX M c G z ls) {a b : Nat} (ha : a < 6) (hb : b < 6) (hj : Jnd G (mn a b) (mx a b)) : f_X1_areJoined N c (nI a) (nI b) M = some 1 := by
  have hn := hG.2.1
  have hp := hG.1
  unfold f_X1_areJoined
  refine lp_cnt (gN G) (fun i a' => a' = nI i ∧ ∃ l, i ≤ l ∧ l < gN G ∧ gA G l = mn a b ∧ gB G l = mx a b) (fun i a' rc hi hI => ?_) (fun a' rc hI => ?_) N 0 _ (by omega) ⟨rfl, by obtain ⟨l, h1, h2⟩ := hj; exact ⟨l, by omega, h1, h2⟩⟩ (by omega)
  · obtain ⟨rfl, l, l1, l2, l3, l4⟩ := hI
    obtain ⟨k1, k2, k3, k4⟩ := h.2.2.2.1 i hi
    obtain ⟨o1, o2, o3, o4, o5⟩ := hG.2.2.1 i hi
    have hi10 : inb (nI i) 10 := inb_nI (by omega) (by decide)
    have hcl : (nI i).toNatClampNeg = i := nI_clamp (by omega)
    rw [h.2.1, if_neg (nI_ge hi (by omega)), ck_t hi10, minI (by omega) (by omega), bd_s]
    simp only [hcl, k3, k4, jn_e, ck_t hi10, maxI (show a < 2 ^ 31 by omega) (show b < 2 ^ 31 by omega), bd_s, nm_e1, nI_1]
    by_cases c1 : gA G i = mn a b ∧ gB G i = mx a b
    · left
      rw [if_pos (by rw [c1.1]), if_pos (by rw [c1.2])]
    · right
      refine ⟨nI (i + 1), ⟨rfl, l, ?_, l2, l3, l4⟩, ?_⟩
      · rcases Nat.lt_or_ge i l with q | q
        · omega
        · have : l = i := by omega
          subst this
          exact absurd ⟨l3, l4⟩ c1
      · have hm : mn a b < 6 := by show (if _ then _ else _) < _; split <;> omega
        have hx : mx a b < 6 := by show (if _ then _ else _) < _; split <;> omega
        by_cases c2 : gA G i = mn a b
        · rw [if_pos (by rw [c2]), if_neg (nI_ne (by omega) (by omega) (fun q => c1 ⟨c2, q⟩))]
        · rw [if_neg (nI_ne (by omega) (by omega) c2)]
  · obtain ⟨rfl, l, l1, l2, l3, l4⟩ := hI
    omega
theorem jnX_0 {N c : Nat} (hN : 2000 ≤ N) {G : Gr} {z : Int32} {ls : Nat → Int64} {M : Mem} (hG : GrOk G) (h : NetX M c G z ls) {a b : Nat} (ha : a < 6) (hb : b < 6) (hj : ¬ Jnd G (mn a b) (mx a b)) : f_X1_areJoined N c (nI a) (nI b) M = some 0 := by
  have hn := hG.2.1
  have hp := hG.1
  unfold f_X1_areJoined
  refine lp_cnt (gN G) (fun i a' => a' = nI i) (fun i a' rc hi hI => Or.inr ?_) (fun a' rc hI => ?_) N 0 _ (by omega) rfl (by omega)
  · subst hI
    obtain ⟨k1, k2, k3, k4⟩ := h.2.2.2.1 i hi
    obtain ⟨o1, o2, o3, o4, o5⟩ := hG.2.2.1 i hi
    have hi10 : inb (nI i) 10 := inb_nI (by omega) (by decide)
    have hcl : (nI i).toNatClampNeg = i := nI_clamp (by omega)
    rw [h.2.1, if_neg (nI_ge hi (by omega)), ck_t hi10, minI (by omega) (by omega), bd_s]
    simp only [hcl, k3, k4, jn_e, ck_t hi10, maxI (show a < 2 ^ 31 by omega) (show b < 2 ^ 31 by omega), bd_s, nm_e1, nI_1]
    have hm : mn a b < 6 := by show (if _ then _ else _) < _; split <;> omega
    have hx : mx a b < 6 := by show (if _ then _ else _) < _; split <;> omega
    refine ⟨nI (i + 1), rfl, ?_⟩
    by_cases c2 : gA G i = mn a b
    · rw [if_pos (by rw [c2]), if_neg (nI_ne (by omega) (by omega) (fun q => hj ⟨i, hi, c2, q⟩))]
    · rw [if_neg (nI_ne (by omega) (by omega) c2)]
  · subst hI
    rw [h.2.1, if_pos (nI_le (a := gN G) (b := gN G) (Nat.le_refl _) (by omega))]
/-- the reference's search: the last line between two points -/
theorem btM {N : Nat} (hN : 2000 ≤ N) {G : Gr} {z : Int32} {ls : Nat → Int64} {M : Mem} (hG : GrOk G) (h : NetM M G z ls) {a b : Nat} (ha : a < 6) (hb : b < 6) (hab : a ≠ b) : ∃ r, f_X8_between N (nI a) (nI b) M = some r ∧ ((r = -1 ∧ ¬ Jnd G (mn a b) (mx a b)) ∨ (r ≠ -1 ∧ Jnd G (mn a b) (mx a b))) := by
  have hn := hG.2.1
  have hp := hG.1
  have key : ∀ (i : Nat), i < gN G → ((gA G i = a ∧ gB G i = b) ∨ (gA G i = b ∧ gB G i = a) ↔ gA G i = mn a b ∧ gB G i = mx a b) := by
    intro i hi
    obtain ⟨o1, o2, o3, o4, o5⟩ := hG.2.2.1 i hi
    show _ ↔ _ = (if _ then _ else _) ∧ _ = (if _ then _ else _)
    split <;> split <;> omega
  -- the answer: which line is found among the first i
  have run : ∀ (k i : Nat) (f : Int32), i + k = gN G → ((f = -1 ∧ ∀ l, l < i → ¬ (gA G l = mn a b ∧ gB G l = mx a b)) ∨ (f ≠ -1 ∧ ∃ l, l < i ∧ gA G l = mn a b ∧ gB G l = mx a b)) → ∀ n, k < n → ∃ r, lp (fun (k5 : (Int32 × Int32) → Option (Int32)) (a5 : Int32 × Int32) => if (M.1 0 1) ≤ a5.2 then (some a5.1) else (ck (inb a5.2 10) (jn (fun (a64 : Int32) => nm (a5.2 + (1 : Int32)) (fun v1 => k5 (a64, v1))) (fun (k64 : Int32 → Option (Int32)) => jn (fun (a58 : Unit) => k64 a5.2) (fun (k58 : Unit → Option (Int32)) => jn (fun (a36 : Unit) => ck (inb a5.2 10) (jn (fun (a63 : Unit) => k64 a5.1) (fun (k63 : Unit → Option (Int32)) => if (M.1 3 a5.2.toNatClampNeg) = nI b then (ck (inb a5.2 10) (if (M.1 4 a5.2.toNatClampNeg) = nI a then (k58 ()) else (k63 ()))) else (k63 ())))) (fun (k36 : Unit → Option (Int32)) => if (M.1 3 a5.2.toNatClampNeg) = nI a then (ck (inb a5.2 10) (if (M.1 4 a5.2.toNatClampNeg) = nI b then (k58 ()) else (k36 ()))) else (k36 ()))))))) n (f, nI i) = some r ∧ ((r = -1 ∧ ¬ Jnd G (mn a b) (mx a b)) ∨ (r ≠ -1 ∧ Jnd G (mn a b) (mx a b))) := by
    intro k
    induction k with
    | zero =>
      intro i f hi hf n hn'
      cases n with
      | zero => omega
      | succ n =>
        have : i = gN G := by omega
        subst this
        refine ⟨f, ?_, ?_⟩
        · show (if M.1 0 1 ≤ nI (gN G) then _ else _) = _
          rw [h.2.1, if_pos (nI_le (a := gN G) (b := gN G) (Nat.le_refl _) (by omega))]
        · rcases hf with ⟨h1, h2⟩ | ⟨h1, l, l1, l2⟩
          · exact Or.inl ⟨h1, fun ⟨l, q1, q2⟩ => h2 l q1 q2⟩
          · exact Or.inr ⟨h1, l, l1, l2⟩
    | succ k ih =>
      intro i f hi hf n hn'
      cases n with
      | zero => omega
      | succ n =>
        have hil : i < gN G := by omega
        obtain ⟨k1, k2, k3, k4⟩ := h.2.2.2.1 i hil
        obtain ⟨o1, o2, o3, o4, o5⟩ := hG.2.2.1 i hil
        have hi10 : inb (nI i) 10 := inb_nI (by omega) (by decide)
        have hcl : (nI i).toNatClampNeg = i := nI_clamp (by omega)
        have e3 : ∀ q, q < 6 → (nI (gA G i) = nI q ↔ gA G i = q) := fun q hq => nI_eq (by omega) (by omega)
        have e4 : ∀ q, q < 6 → (nI (gB G i) = nI q ↔ gB G i = q) := fun q hq => nI_eq (by omega) (by omega)
        by_cases cm : gA G i = mn a b ∧ gB G i = mx a b
        · obtain ⟨r, r1, r2⟩ := ih (i + 1) (nI i) (by omega) (Or.inr ⟨by rw [Ne, i_eq, nI_toInt (by omega)]; have : (-1 : Int32).toInt = -1 := rfl; omega, i, by omega, cm⟩) n (by omega)
          refine ⟨r, ?_, r2⟩
          rw [← r1]
          show (if M.1 0 1 ≤ nI i then _ else _) = _
          rw [h.2.1, if_neg (nI_ge hil (by omega))]
          simp only [ck_t hi10, jn_e, nm_e1, hcl, k3, k4, e3 a ha, e3 b hb, e4 a ha, e4 b hb, nI_1]
          rcases (key i hil).mpr cm with ⟨c1, c2⟩ | ⟨c1, c2⟩
          · rw [if_pos c1, if_pos c2]
          · rw [if_neg (by omega), if_pos c1, if_pos c2]
        · obtain ⟨r, r1, r2⟩ := ih (i + 1) f (by omega) (by
            rcases hf with ⟨h1, h2⟩ | ⟨h1, l, l1, l2⟩
            · exact Or.inl ⟨h1, fun l hl => by
                rcases Nat.lt_or_ge l i with q | q
                · exact h2 l q
                · have : l = i := by omega
                  subst this; exact cm⟩
            · exact Or.inr ⟨h1, l, by omega, l2⟩) n (by omega)
          refine ⟨r, ?_, r2⟩
          rw [← r1]
          show (if M.1 0 1 ≤ nI i then _ else _) = _
          rw [h.2.1, if_neg (nI_ge hil (by omega))]
          simp only [ck_t hi10, jn_e, nm_e1, hcl, k3, k4, e3 a ha, e3 b hb, e4 a ha, e4 b hb, nI_1]
          have nk := mt (key i hil).mp cm
          by_cases c1 : gA G i = a
          · rw [if_pos c1, if_neg (fun q => nk (Or.inl ⟨c1, q⟩)), if_neg (by omega)]
          · rw [if_neg c1]
            by_cases c2 : gA G i = b
            · rw [if_pos c2, if_neg (fun q => nk (Or.inr ⟨c2, q⟩))]
            · rw [if_neg c2]
  obtain ⟨r, r1, r2⟩ := run (gN G) 0 (-1) (by omega) (Or.inl ⟨rfl, fun l hl => by omega⟩) N (by omega)
  exact ⟨r, by unfold f_X8_between; exact r1, r2⟩
def adLX (M : Mem) (c n : Nat) (k f a b : Int32) : Mem := setI (setI (setI (setI (setI M (c + 1) n k) (c + 2) n f) (c + 3) n a) (c + 4) n b) c 1 (nI (n + 1))
def adLM (M : Mem) (n : Nat) (k f a b : Int32) : Mem := setI (setI (setI (setI (setI M 1 n k) 2 n f) 3 n a) 4 n b) 0 1 (nI (n + 1))
theorem addL_X {N c n a b : Nat} {k f : Int32} {M : Mem} (h : M.1 c 1 = nI n) (hn : n < 10) (ha : a < 6) (hb : b < 6) : f_X1_addLine N c k f (nI a) (nI b) M = some (adLX M c n k f (nI (mn a b)) (nI (mx a b))) := by
  have hi : inb (nI n) 10 := inb_nI hn (by decide)
  have hcl : (nI n).toNatClampNeg = n := nI_clamp (by omega)
  unfold f_X1_addLine
  rw [h, show (10 : Int32) = nI 10 from rfl, if_neg (nI_ge (b := 10) hn (by decide)), ck_t hi, nm_e1]
  have e1 : ∀ v, (setI M (c + 1) n v).1 c 1 = nI n := fun v => by rw [setI_o (by omega), h]
  have e2 : ∀ v w, (setI (setI M (c + 1) n v) (c + 2) n w).1 c 1 = nI n := fun v w => by rw [setI_o (by omega), e1]
  have e3 : ∀ v w x, (setI (setI (setI M (c + 1) n v) (c + 2) n w) (c + 3) n x).1 c 1 = nI n := fun v w x => by rw [setI_o (by omega), e2]
  have e4 : ∀ v w x y, (setI (setI (setI (setI M (c + 1) n v) (c + 2) n w) (c + 3) n x) (c + 4) n y).1 c 1 = nI n := fun v w x y => by rw [setI_o (by omega), e3]
  simp only [hcl, e1, e2, e3, e4, ck_t hi, nm_e1, minI (show a < 2 ^ 31 by omega) (show b < 2 ^ 31 by omega), maxI (show a < 2 ^ 31 by omega) (show b < 2 ^ 31 by omega), bd_s, nI_1]
  rfl
theorem addL_M {N n a b : Nat} {k f : Int32} {M : Mem} (h : M.1 0 1 = nI n) (hn : n < 10) (ha : a < 6) (hb : b < 6) (hab : a ≠ b) : f_X8_lineComes N k f (nI a) (nI b) M = some (adLM M n k f (nI (mn a b)) (nI (mx a b))) := by
  have hi : inb (nI n) 10 := inb_nI hn (by decide)
  have hcl : (nI n).toNatClampNeg = n := nI_clamp (by omega)
  unfold f_X8_lineComes
  have e1 : ∀ v, (setI M 1 n v).1 0 1 = nI n := fun v => by rw [setI_o (by omega), h]
  have e2 : ∀ v w, (setI (setI M 1 n v) 2 n w).1 0 1 = nI n := fun v w => by rw [setI_o (by omega), e1]
  have e3 : ∀ v w x, (setI (setI (setI M 1 n v) 2 n w) 3 n x).1 0 1 = nI n := fun v w x => by rw [setI_o (by omega), e2]
  have e4 : ∀ v w x y, (setI (setI (setI (setI M 1 n v) 2 n w) 3 n x) 4 n y).1 0 1 = nI n := fun v w x y => by rw [setI_o (by omega), e3]
  simp only [h, hcl, e1, e2, e3, e4, ck_t hi, nm_e1, jn_e, nI_1, nI_leI (show b < 2 ^ 31 by omega) (show a < 2 ^ 31 by omega)]
  show _ = some (adLM M n k f (nI (if a ≤ b then a else b)) (nI (if a < b then b else a)))
  by_cases c : b ≤ a
  · rw [if_pos c, if_pos c, if_neg (show ¬ a ≤ b by omega), if_neg (show ¬ a < b by omega)]; rfl
  · rw [if_neg c, if_neg c, if_pos (show a ≤ b by omega), if_pos (show a < b by omega)]; rfl
def grAdd (G : Gr) (k f a b : Nat) : Gr := (gP G, gN G + 1, (fun l => if l = gN G then k else gK G l), (fun l => if l = gN G then f else gF G l), (fun l => if l = gN G then a else gA G l), (fun l => if l = gN G then b else gB G l))
theorem GrOk.addL {G : Gr} (h : GrOk G) {k f a b : Nat} (hn : gN G < 10) (hk : k < 5) (hf : 1 ≤ f ∧ f ≤ 3) (hab : a < b) (hb : b < gP G) (hj : ¬ Jnd G a b) : GrOk (grAdd G k f a b) := by
  obtain ⟨h1, h2, h3, h4⟩ := h
  refine ⟨h1, hn, fun l hl => ?_, fun l m hl hm e1 e2 => ?_⟩
  · have hl : l < gN G + 1 := hl
    show (if _ then _ else _) < 5 ∧ 1 ≤ (if _ then _ else _) ∧ (if _ then _ else _) ≤ 3 ∧ (if _ then _ else _) < (if _ then _ else _) ∧ (if _ then _ else _) < gP G
    by_cases c : l = gN G
    · simp only [if_pos c]; exact ⟨hk, hf.1, hf.2, hab, hb⟩
    · simp only [if_neg c]; exact h3 l (by omega)
  · have hl : l < gN G + 1 := hl
    have hm : m < gN G + 1 := hm
    have e1 : (if l = gN G then a else gA G l) = (if m = gN G then a else gA G m) := e1
    have e2 : (if l = gN G then b else gB G l) = (if m = gN G then b else gB G m) := e2
    by_cases c : l = gN G <;> by_cases d : m = gN G
    · omega
    · rw [if_pos c, if_neg d] at e1 e2
      exact absurd ⟨m, by omega, e1.symm, e2.symm⟩ hj
    · rw [if_neg c, if_pos d] at e1 e2
      exact absurd ⟨l, by omega, e1, e2⟩ hj
    · rw [if_neg c, if_neg d] at e1 e2
      exact h4 l m (by omega) (by omega) e1 e2
theorem NetX.addL {M : Mem} {c : Nat} {G : Gr} {z : Int32} {ls : Nat → Int64} (h : NetX M c G z ls) (k f a b : Nat) : NetX (adLX M c (gN G) (nI k) (nI f) (nI a) (nI b)) c (grAdd G k f a b) z ls := by
  obtain ⟨h1, h2, h3, h4, h5⟩ := h
  refine ⟨?_, ?_, ?_, fun l hl => ?_, h5⟩
  · simp [adLX, setI_1]; exact h1
  · simp [adLX, setI_1, grAdd]
  · simp [adLX, setI_1]; exact h3
  · have hl : l < gN G + 1 := hl
    show _ = nI (if _ then _ else _) ∧ _ = nI (if _ then _ else _) ∧ _ = nI (if _ then _ else _) ∧ _ = nI (if _ then _ else _)
    by_cases e : l = gN G
    · simp [adLX, setI_1, e]
    · simp only [if_neg e]
      have := h4 l (by omega)
      simp [adLX, setI_1, e]; exact this
theorem NetM.addL {M : Mem} {G : Gr} {z : Int32} {ls : Nat → Int64} (h : NetM M G z ls) (k f a b : Nat) : NetM (adLM M (gN G) (nI k) (nI f) (nI a) (nI b)) (grAdd G k f a b) z ls := by
  obtain ⟨h1, h2, h3, h4, h5⟩ := h
  refine ⟨?_, ?_, ?_, fun l hl => ?_, h5⟩
  · simp [adLM, setI_1]; exact h1
  · simp [adLM, setI_1, grAdd]
  · simp [adLM, setI_1]; exact h3
  · have hl : l < gN G + 1 := hl
    show _ = nI (if _ then _ else _) ∧ _ = nI (if _ then _ else _) ∧ _ = nI (if _ then _ else _) ∧ _ = nI (if _ then _ else _)
    by_cases e : l = gN G
    · simp [adLM, setI_1, e]
    · simp only [if_neg e]
      have := h4 l (by omega)
      simp [adLM, setI_1, e]; exact this
theorem isKX {N : Nat} {x : Int32} {M : Mem} : f_X7_isKind N x M = some (bI (0 ≤ x ∧ x ≤ 4)) := by
  unfold f_X7_isKind; rw [within_e, bd_s, ck_t bI_ck]
theorem isFX {N : Nat} {x : Int32} {M : Mem} : f_X7_isFigure N x M = some (bI (1 ≤ x ∧ x ≤ 3)) := by
  unfold f_X7_isFigure; rw [within_e, bd_s, ck_t bI_ck]
theorem nI_of_1 {x : Int32} (k : Nat) (hk : k < 2 ^ 31) (h : 1 ≤ x ∧ x ≤ nI k) : ∃ s, 1 ≤ s ∧ s ≤ k ∧ x = nI s := by
  obtain ⟨s, h1, rfl⟩ := nI_of_le k hk ⟨by rw [i_le] at *; have := h.1; have e1 : (1 : Int32).toInt = 1 := rfl; have e0 : (0 : Int32).toInt = 0 := rfl; omega, h.2⟩
  exact ⟨s, (nI_leI (a := 1) (by decide) (by omega)).mp h.1, h1, rfl⟩
theorem fgt_NetX {M : Mem} {c : Nat} {G : Gr} {z : Int32} {ls : Nat → Int64} (h : NetX M c G z ls) (hc : c + 5 < 19) : NetX (fgt M) c G z ls := h.ag (fun a h1 h2 => ⟨fgt_o (by omega), rfl⟩)
theorem s_1 {N : Nat} (hN : 2000 ≤ N) : St_1 N Rel := by
  intro Mx Mm a0 a1 a2 a3 h
  apply rr_st
  obtain ⟨G, z, ls, hc⟩ := id h
  obtain ⟨hG, hX, hM, -⟩ := id hc
  have hp := hG.1
  have hn := hG.2.1
  unfold f_X7_line f_X8_line
  rw [isKX, inI_e N a0 0 4 Mm (by decide) (by decide), bd_s, bd_s, ite_bI, ite_bI]
  refine rr_ite Iff.rfl (fun v0 => ?_) (fun _ => rr_ret ⟨rfl, h⟩)
  rw [isFX, inI_e N a1 1 3 Mm (by decide) (by decide), bd_s, bd_s, ite_bI, ite_bI]
  refine rr_ite Iff.rfl (fun v1 => ?_) (fun _ => rr_ret ⟨rfl, h⟩)
  rw [ptX, ptM hM.1 hp, bd_s, bd_s, ite_bI, ite_bI, hX.1]
  refine rr_ite Iff.rfl (fun v2 => ?_) (fun _ => rr_ret ⟨rfl, h⟩)
  rw [ptX, ptM hM.1 hp, bd_s, bd_s, ite_bI, ite_bI, hX.1]
  refine rr_ite Iff.rfl (fun v3 => ?_) (fun _ => rr_ret ⟨rfl, h⟩)
  refine rr_ite Iff.rfl (fun _ => rr_ret ⟨rfl, h⟩) (fun hne => ?_)
  obtain ⟨k, hk, rfl⟩ := nI_of_le 4 (by decide) v0
  obtain ⟨f, f1, f2, rfl⟩ := nI_of_1 3 (by decide) v1
  obtain ⟨a, ha, rfl⟩ := nI_of_lt (by omega) v2
  obtain ⟨b, hb, rfl⟩ := nI_of_lt (by omega) v3
  have hab : a ≠ b := fun q => hne (by rw [q])
  obtain ⟨r, r1, r2⟩ := btM hN hG hM (a := a) (b := b) (by omega) (by omega) hab
  rw [r1, bd_s]
  rcases r2 with ⟨r2, hj⟩ | ⟨r2, hj⟩
  · subst r2
    rw [jnX_0 hN hG hX (by omega) (by omega) hj, bd_s, if_pos rfl, if_pos rfl, hX.2.1, hM.2.1]
    by_cases c : gN G < 10
    · rw [show (10 : Int32) = nI 10 from rfl, if_pos (nI_lt c (by decide)), if_neg (nI_ne (by omega) (by decide) (by omega)), fgt_e, bd_s, addL_X (by rw [fgt_o (by omega)]; exact hX.2.1) c (by omega) (by omega), bd_s, addL_M hM.2.1 c (by omega) (by omega) hab, bd_s]
      have hmm : mn a b < mx a b ∧ mx a b < gP G := by
        show (if _ then _ else _) < (if _ then _ else _) ∧ (if _ then _ else _) < _
        split <;> split <;> omega
      refine rr_ret ⟨by simp [adLX, adLM, setI_1], grAdd G k f (mn a b) (mx a b), z, ls, Cmp_net hc (fun q q1 q2 => ⟨?_, rfl⟩) (fun j hj => ?_) (fun q hq => ⟨?_, rfl⟩) (hG.addL c (by omega) ⟨f1, f2⟩ hmm.1 hmm.2 hj) ((fgt_NetX hX (by omega)).addL k f _ _) (hM.addL k f _ _) (fgt_Bk (M := Mx) ?_)⟩
      · show (adLX _ _ _ _ _ _ _).1 q = _
        unfold adLX
        rw [setI_o (by omega), setI_o (by omega), setI_o (by omega), setI_o (by omega), setI_o (by omega), fgt_o (by omega)]
      · show (adLM _ _ _ _ _ _).1 0 j = _
        unfold adLM
        simp [setI_1]; omega
      · show (adLM _ _ _ _ _ _).1 q = _
        unfold adLM
        rw [setI_o (by omega), setI_o (by omega), setI_o (by omega), setI_o (by omega), setI_o (by omega)]
      · show (adLX _ _ _ _ _ _ _).1 19 = _
        unfold adLX
        rw [setI_o (by omega), setI_o (by omega), setI_o (by omega), setI_o (by omega), setI_o (by omega)]
    · rw [show (10 : Int32) = nI 10 from rfl, if_neg (nI_nlt (by omega) (by omega)), if_pos (by rw [show gN G = 10 by omega])]
      exact rr_ret ⟨rfl, h⟩
  · rw [jnX_1 hN hG hX (by omega) (by omega) hj, bd_s, if_neg (by decide), if_neg r2]
    exact rr_ret ⟨rfl, h⟩
