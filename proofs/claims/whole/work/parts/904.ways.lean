/-! the class's painter made ready -/
def lsN (ls : Nat → Int64) (i : Nat) : Nat := (ls i).toBitVec.toNat
theorem lsN_e {ls : Nat → Int64} {i : Nat} : ls i = lN (lsN ls i) := wb_inj (by rw [wb_tb]; unfold lsN; simp)
theorem lsN_lt {ls : Nat → Int64} {i : Nat} : lsN ls i < 2 ^ 64 := (ls i).toBitVec.isLt
def fre (ls : Nat → Int64) (li p i : Nat) : Nat := if li = 1 then lsN ls i % 2 ^ p else 2 ^ p - 1
theorem fre_lt {ls : Nat → Int64} {li p i : Nat} : fre ls li p i < 2 ^ p := by
  have : 0 < 2 ^ p := Nat.two_pow_pos p
  unfold fre
  split
  · exact Nat.mod_lt _ this
  · omega
/-- places of a point, by lists or not -/
def plc (ls : Nat → Int64) (li i x : Nat) : Bool := decide (li ≠ 1) || (lsN ls i).testBit x
theorem fre_tb {ls : Nat → Int64} {li p i x : Nat} (hx : x < p) : (fre ls li p i).testBit x = plc ls li i x := by
  unfold fre plc
  by_cases c : li = 1
  · rw [if_pos c, decide_eq_false (fun q => q c), Nat.testBit_mod_two_pow, decide_eq_true hx]; rfl
  · rw [if_neg c, decide_eq_true c, Nat.testBit_two_pow_sub_one, decide_eq_true hx]; rfl
def ldM (G : Gr) : Nat → Nat
  | 0 => 0
  | l + 1 => ldM G l ||| 2 ^ gA G l
theorem ldM_tb {G : Gr} {i : Nat} : ∀ n, (ldM G n).testBit i = true ↔ ∃ l, l < n ∧ gA G l = i
  | 0 => by
    show Nat.testBit 0 i = true ↔ _
    rw [Nat.zero_testBit]
    exact ⟨fun q => absurd q (by decide), fun ⟨l, h, _⟩ => absurd h (Nat.not_lt_zero _)⟩
  | n + 1 => by
    show (ldM G n ||| 2 ^ gA G n).testBit i = true ↔ _
    rw [Nat.testBit_or, Nat.testBit_two_pow, Bool.or_eq_true, ldM_tb n, decide_eq_true_iff]
    constructor
    · rintro (⟨l, h1, h2⟩ | h)
      · exact ⟨l, by omega, h2⟩
      · exact ⟨n, by omega, h⟩
    · rintro ⟨l, h1, h2⟩
      by_cases c : l = n
      · rw [c] at h2; exact Or.inr h2
      · exact Or.inl ⟨l, by omega, h2⟩
theorem ldM_lt {G : Gr} (hG : GrOk G) : ∀ n, n ≤ gN G → ldM G n < 64
  | 0, _ => by show 0 < 64; omega
  | n + 1, h => by
    have h1 := ldM_lt hG n (by omega)
    obtain ⟨-, -, -, o4, o5⟩ := hG.2.2.1 n (by omega)
    have hP := hG.1
    exact Nat.or_lt_two_pow (n := 6) h1 (Nat.pow_lt_pow_right (by omega) (by omega))
def Prep (M : Mem) (G : Gr) (p q : Nat) (F : Nat → Nat) : Prop := M.1 26 1 = nI p ∧ M.1 26 2 = nI q ∧ (∀ l, l < gN G → M.1 29 l = nI (q * gG G l)) ∧ (∀ i, i < gP G → M.2 30 i = lN (F i)) ∧ M.1 26 3 = nI (ldM G (gN G))
theorem prepX {N : Nat} (hN : 2000 ≤ N) {G : Gr} {z : Int32} {ls : Nat → Int64} {M : Mem} (hG : GrOk G) (h : NetX M 1 G z ls) {p q li : Nat} (hp : p ≤ 40) (_hq : q ≤ 6) (hli : li ≤ 1) : ∃ M', f_X2_prepare N 1 (nI p) (nI q) (nI li) M = some M' ∧ Ag [26, 29, 30] M M' ∧ Prep M' G p q (fre ls li p) := by
  have hn := hG.2.1
  have hP := hG.1
  have hpp : 0 < 2 ^ p := Nat.two_pow_pos p
  have h2p : 2 ^ p ≤ 2 ^ 40 := Nat.pow_le_pow_right (by omega) hp
  unfold f_X2_prepare
  rw [nm_e1, nm_e1, nm_e1]
  have e1 : (setI (setI M 26 1 (nI p)) 26 2 (nI q)).1 26 1 = nI p := by simp [setI_1]
  have ev : ((1 : Int64) <<< ((nI p).toInt64 &&& 63)) - 1 = lN (2 ^ p - 1) := by
    have : (1 : Int64) <<< ((nI p).toInt64 &&& 63) = lN (1 * 2 ^ p) := wb_shl 1 (by omega)
    rw [this, Nat.one_mul]; exact lN_sub (b := 1) hpp
  rw [e1, ev]
  have hA0 : Ag [26, 29, 30] M (setI (setI M 26 1 (nI p)) 26 2 (nI q)) := Ag.tr (Ag.setI (by simp)) (Ag.setI (by simp))
  have e2 : (setI (setI M 26 1 (nI p)) 26 2 (nI q)).1 26 2 = nI q := by simp [setI_1]
  generalize setI (setI M 26 1 (nI p)) 26 2 (nI q) = A0 at hA0 e1 e2 ⊢
  refine lp_S (S := fun o => ∃ M', o = some M' ∧ Ag [26, 29, 30] M M' ∧ Prep M' G p q (fre ls li p)) (fun k (a : Int32 × Mem) => ∃ i A, i + k = gP G ∧ a = (nI i, A) ∧ Ag [26, 29, 30] M A ∧ A.1 26 1 = nI p ∧ A.1 26 2 = nI q ∧ ∀ j, j < i → A.2 30 j = lN (fre ls li p j)) (fun k a rc hJ => ?_) N (gP G) _ ⟨0, A0, by omega, rfl, hA0, e1, e2, fun j hj => absurd hj (Nat.not_lt_zero _)⟩ (by omega)
  obtain ⟨i, A, hk, rfl, hA, a1, a2, hF⟩ := hJ
  have hX : NetX A 1 G z ls := h.ag (fun a h1 h2 => hA a (by simp; omega))
  dsimp only
  rw [hX.1]
  cases k with
  | succ k =>
    right
    have hi : i < gP G := by omega
    have i6 : inb (nI i) 6 := inb_nI (by omega) (by decide)
    have ci : (nI i).toNatClampNeg = i := nI_clamp (by omega)
    have e6 : A.2 (1 + 5) i = ls i := hX.2.2.2.2 i hi
    rw [if_neg (nI_ge hi (by omega))]
    simp only [jn_e, nm_e1, nI_1, ck_t i6, ci, e6]
    have hv : (if nI li = 1 then rc (nI (i + 1), setJ A 30 i (lN (2 ^ p - 1) &&& ls i)) else rc (nI (i + 1), setJ A 30 i (lN (2 ^ p - 1)))) = rc (nI (i + 1), setJ A 30 i (lN (fre ls li p i))) := by
      unfold fre
      by_cases c : li = 1
      · have hm : lN (2 ^ p - 1) &&& ls i = lN (lsN ls i % 2 ^ p) := by
          rw [Int64.and_comm, show ls i = lN (lsN ls i) from lsN_e, wb_mask lsN_lt (by omega)]
        rw [if_pos (by rw [c]; rfl), if_pos c, hm]
      · rw [if_neg (show ¬ nI li = 1 from fun z => c ((nI_eq (b := 1) (by omega) (by decide)).mp z)), if_neg c]
    rw [hv]
    refine ⟨k, _, by omega, ⟨i + 1, _, by omega, rfl, hA.tr (Ag.setJ (by simp)), a1, a2, fun j hj => ?_⟩, rfl⟩
    rw [setJ_2, if_pos rfl]
    by_cases c : j = i
    · rw [if_pos c, c]
    · rw [if_neg c]; exact hF j (by omega)
  | zero =>
    left
    have e : i = gP G := by omega
    subst e
    rw [if_pos (nI_le (a := gP G) (b := gP G) (Nat.le_refl _) (by omega)), nm_e1]
    have hB0 : Ag [26, 29, 30] M (setI A 26 3 0) := hA.tr (Ag.setI (by simp))
    refine lp_S (S := fun o => ∃ M', o = some M' ∧ Ag [26, 29, 30] M M' ∧ Prep M' G p q (fre ls li p)) (fun k (a : Int32 × Mem) => ∃ l B, l + k = gN G ∧ a = (nI l, B) ∧ Ag [26, 29, 30] M B ∧ B.1 26 1 = nI p ∧ B.1 26 2 = nI q ∧ (∀ j, j < gP G → B.2 30 j = lN (fre ls li p j)) ∧ (∀ j, j < l → B.1 29 j = nI (q * gG G j)) ∧ B.1 26 3 = nI (ldM G l)) (fun k a rc hJ => ?_) N (gN G) _ ⟨0, _, by omega, rfl, hB0, by simp [setI_1, a1], by simp [setI_1, a2], hF, fun j hj => absurd hj (Nat.not_lt_zero _), by simp [setI_1]; rfl⟩ (by omega)
    obtain ⟨l, B, hk, rfl, hB, b1, b2, b3, b4, b5⟩ := hJ
    have hXB : NetX B 1 G z ls := h.ag (fun a h1 h2 => hB a (by simp; omega))
    dsimp only
    rw [hXB.2.1]
    cases k with
    | zero =>
      left
      have e : l = gN G := by omega
      subst e
      rw [if_pos (nI_le (a := gN G) (b := gN G) (Nat.le_refl _) (by omega))]
      exact ⟨B, rfl, hB, b1, b2, b4, b3, b5⟩
    | succ k =>
      right
      have hl : l < gN G := by omega
      have l10 : inb (nI l) 10 := inb_nI (by omega) (by decide)
      have cl : (nI l).toNatClampNeg = l := nI_clamp (by omega)
      obtain ⟨-, -, k3, -⟩ := hXB.2.2.2.1 l hl
      obtain ⟨-, -, -, o4, o5⟩ := hG.2.2.1 l hl
      rw [if_neg (nI_ge hl (by omega)), gapX hG hXB hl, bd_s]
      have k3' : (setI B 29 l (nI (q * gG G l))).1 (1 + 3) l = nI (gA G l) := by rw [setI_o (by decide)]; exact k3
      have b5' : (setI B 29 l (nI (q * gG G l))).1 26 3 = nI (ldM G l) := by rw [setI_o (by decide)]; exact b5
      simp only [ck_t l10, cl, nm_e1, nI_1, b2, pk_mul, k3', b5', sh1 (show gA G l < 31 by omega), nI_or]
      refine ⟨k, _, by omega, ⟨l + 1, _, by omega, rfl, hB.tr (Ag.tr (Ag.setI (by simp)) (Ag.setI (by simp))), by simp [setI_1, b1], by simp [setI_1, b2], b3, fun j hj => ?_, by simp [setI_1]; rfl⟩, rfl⟩
      rw [setI_o (by decide), setI_1, if_pos rfl]
      by_cases c : j = l
      · rw [if_pos c, c]
      · rw [if_neg c]; exact b4 j (by omega)
/-! how many colourings -/
def upv (v : Nat → Nat) (k x : Nat) : Nat → Nat := fun i => if i = k then x else v i
theorem upv_s {v : Nat → Nat} {k x : Nat} : upv v k x k = x := if_pos rfl
theorem upv_o {v : Nat → Nat} {k x i : Nat} (h : i ≠ k) : upv v k x i = v i := if_neg h
def wy (G : Gr) (p q : Nat) (L : Nat → Nat → Bool) : Nat → Nat → (Nat → Nat) → Nat
  | 0, _, _ => 1
  | m + 1, k, v => sm (fun x => if L k x && aok G (upv v k x) p q k (gN G) then wy G p q L m (k + 1) (upv v k x) else 0) p
theorem aok_cg {G : Gr} (hG : GrOk G) {v v' : Nat → Nat} {p q b : Nat} (h : ∀ i, i ≤ b → v i = v' i) : ∀ n, n ≤ gN G → aok G v p q b n = aok G v' p q b n
  | 0, _ => rfl
  | n + 1, hn => by
    show (aok G v p q b n && _) = (aok G v' p q b n && _)
    rw [aok_cg hG h n (by omega)]
    congr 1
    by_cases c : gB G n = b
    · have := (hG.2.2.1 n (by omega)).2.2.2.1
      rw [h b (Nat.le_refl _), h (gA G n) (by omega)]
    · rw [decide_eq_true (p := gB G n ≠ b) c, Bool.true_or, Bool.true_or]
theorem wy_cg {G : Gr} (hG : GrOk G) {p q : Nat} {L L' : Nat → Nat → Bool} : ∀ m k v v', (∀ i, i < k → v i = v' i) → (∀ i x, k ≤ i → x < p → L i x = L' i x) → wy G p q L m k v = wy G p q L' m k v'
  | 0, _, _, _, _, _ => rfl
  | m + 1, k, v, v', h, hL => by
    refine sm_cg _ (fun x hx => ?_)
    have hv : ∀ i, i ≤ k → upv v k x i = upv v' k x i := fun i hi => by
      by_cases c : i = k
      · rw [c, upv_s, upv_s]
      · rw [upv_o c, upv_o c]; exact h i (by omega)
    rw [hL k x (Nat.le_refl _) hx, aok_cg hG hv _ (Nat.le_refl _), wy_cg hG m (k + 1) _ _ (fun i hi => hv i (by omega)) (fun i y hi hy => hL i y (by omega) hy)]
theorem wy_le {G : Gr} {p q : Nat} {L : Nat → Nat → Bool} : ∀ m k v, wy G p q L m k v ≤ p ^ m
  | 0, _, _ => Nat.le_refl _
  | m + 1, k, v => by
    show sm _ p ≤ _
    have h : sm (fun x => if L k x && aok G (upv v k x) p q k (gN G) then wy G p q L m (k + 1) (upv v k x) else 0) p ≤ sm (fun _ => p ^ m) p := sm_le _ (fun x _ => by
      split
      · exact wy_le m _ _
      · exact Nat.zero_le _)
    rw [sm_c] at h
    rw [Nat.pow_succ]; exact h
def PlA (k : Nat) (M A : Mem) : Prop := (∀ a, a ≠ 7 → A.1 a = M.1 a) ∧ (∀ i, i < k → A.1 7 i = M.1 7 i) ∧ A.2 = M.2
theorem PlA.rf {k : Nat} {M : Mem} : PlA k M M := ⟨fun _ _ => rfl, fun _ _ => rfl, rfl⟩
theorem PlA.tr {k : Nat} {M A B : Mem} (h : PlA k M A) (h2 : PlA k A B) : PlA k M B := ⟨fun a ha => (h2.1 a ha).trans (h.1 a ha), fun i hi => (h2.2.1 i hi).trans (h.2.1 i hi), h2.2.2.trans h.2.2⟩
theorem PlA.up {k j : Nat} {M A : Mem} (h : PlA k M A) (hj : j ≤ k) : PlA j M A := ⟨h.1, fun i hi => h.2.1 i (by omega), h.2.2⟩
theorem PlA.set {k : Nat} {M : Mem} {v : Int32} : PlA k M (setI M 7 k v) := ⟨fun a ha => setI_o ha, fun i hi => by rw [setI_1, if_pos rfl, if_neg (by omega)], rfl⟩
theorem PlA.net {k : Nat} {M A : Mem} {G : Gr} {z : Int32} {ls : Nat → Int64} (h : PlA k M A) (hM : NetM M G z ls) : NetM A G z ls := hM.ag (fun j _ => by rw [h.1 0 (by omega)]) (fun a h1 h2 => ⟨h.1 a (by omega), by rw [h.2.2]⟩)
theorem wyM {N : Nat} (hN : 2000 ≤ N) {G : Gr} {z : Int32} {ls : Nat → Int64} (hG : GrOk G) {p q li : Nat} (hp : p ≤ 8) (hq : q ≤ 6) (hli : li ≤ 1) : ∀ m dd k v M, k + m = gP G → m < dd → NetM M G z ls → M.1 0 8 = -1 → M.1 0 12 = nI p → M.1 0 13 = nI q → (∀ i, i < k → M.1 7 i = nI (v i) ∧ v i < 1000) → ∃ M', f_X8_waysFrom N dd (nI k) (nI li) M = some (nI (wy G p q (plc ls li) m k v), M') ∧ PlA k M M'
  | m, 0, k, v, M, _, hd, _, _, _, _, _ => absurd hd (Nat.not_lt_zero _)
  | 0, dd + 1, k, v, M, hk, hd, hM, h8, h12, h13, hv => by
    have hP := hG.1
    refine ⟨M, ?_, PlA.rf⟩
    show (if nI k = M.1 0 0 then _ else _) = _
    rw [hM.1, if_pos (by rw [show k = gP G by omega])]; rfl
  | m + 1, dd + 1, k, v, M, hk, hd, hM, h8, h12, h13, hv => by
    have hP := hG.1
    have hkP : k < gP G := by omega
    have k6 : inb (nI k) 6 := inb_nI (by omega) (by decide)
    have cK : (nI k).toNatClampNeg = k := nI_clamp (by omega)
    have hpm : p ^ m ≤ 8 ^ 5 := Nat.le_trans (Nat.pow_le_pow_left hp m) (Nat.pow_le_pow_right (by omega) (by omega))
    show ∃ M', (if nI k = M.1 0 0 then _ else _) = _ ∧ _
    rw [hM.1, if_neg (nI_ne (by omega) (by omega) (by omega))]
    obtain ⟨f, hf⟩ : ∃ f : Nat → Nat, f = fun x => if plc ls li k x && aok G (upv v k x) p q k (gN G) then wy G p q (plc ls li) m (k + 1) (upv v k x) else 0 := ⟨_, rfl⟩
    have hw : wy G p q (plc ls li) (m + 1) k v = sm f p := by rw [hf]; rfl
    rw [hw]
    refine lp_S (S := fun o => ∃ M', o = some (nI (sm f p), M') ∧ PlA k M M') (fun r (a : Int32 × Int32 × Mem) => ∃ x A, x + r = p ∧ a = (nI (sm f x), nI x, A) ∧ PlA k M A) (fun r a rc hJ => ?_) N p _ ⟨0, M, by omega, rfl, PlA.rf⟩ (by omega)
    obtain ⟨x, A, hr, rfl, hA⟩ := hJ
    dsimp only
    rw [show A.1 0 12 = nI p by rw [hA.1 0 (by omega)]; exact h12]
    cases r with
    | zero =>
      left
      have e : x = p := by omega
      subst e
      rw [if_pos (nI_le (Nat.le_refl _) (by omega))]
      exact ⟨A, rfl, hA⟩
    | succ r =>
      right
      have hx : x < p := by omega
      have hB : PlA k M (setI A 7 k (nI x)) := hA.tr PlA.set
      have hMB := hB.net hM
      have b0 : ∀ j, (setI A 7 k (nI x)).1 0 j = M.1 0 j := fun j => by rw [hB.1 0 (by omega)]
      have hvB : ∀ i, i < k + 1 → (setI A 7 k (nI x)).1 7 i = nI (upv v k x i) ∧ upv v k x i < 1000 := fun i hi => by
        by_cases c : i = k
        · subst c; rw [upv_s]; exact ⟨by simp [setI_1], by omega⟩
        · rw [upv_o c, hB.2.1 i (by omega)]; exact hv i (by omega)
      have hfe := fenM (N := N) (v := upv v k x) (b := k) hN hG hMB (by rw [b0]; exact h8) (by rw [b0]; exact h12) (by rw [b0]; exact h13) (by omega) hq hkP (fun i hi => hvB i (by omega))
      obtain ⟨C, c1, c2⟩ := wyM hN hG hp hq hli m dd (k + 1) (upv v k x) (setI A 7 k (nI x)) (by omega) (by omega) hMB (by rw [b0]; exact h8) (by rw [b0]; exact h12) (by rw [b0]; exact h13) hvB
      have e5 : (setI A 7 k (nI x)).2 5 k = lN (lsN ls k) := (hMB.2.2.2.2 k hkP).trans lsN_e
      rw [if_neg (nI_ge hx (by omega))]
      simp only [jn_e, nm_e1, nI_1, ck_t k6, cK, e5, hfe, bd_s, c1]
      have hs : sm f (x + 1) = sm f x + f x := rfl
      have hz : f x = 0 → ∃ m' c, m' < r + 1 ∧ (∃ x A, x + m' = p ∧ c = (nI (sm f x), nI x, A) ∧ PlA k M A) ∧ rc (nI (sm f x), nI (x + 1), setI A 7 k (nI x)) = rc c := fun q => by
        have hs0 : sm f (x + 1) = sm f x := by rw [hs, q]; rfl
        exact ⟨r, _, by omega, ⟨x + 1, _, by omega, by rw [hs0], hB⟩, rfl⟩
      have fin : plc ls li k x = true → ∃ m' c, m' < r + 1 ∧ (∃ x A, x + m' = p ∧ c = (nI (sm f x), nI x, A) ∧ PlA k M A) ∧ (if bB (aok G (upv v k x) p q k (gN G)) = 0 then rc (nI (sm f x), nI (x + 1), setI A 7 k (nI x)) else rc (nI (sm f x) + nI (wy G p q (plc ls li) m (k + 1) (upv v k x)), nI (x + 1), C)) = rc c := by
        intro hpl
        cases c : aok G (upv v k x) p q k (gN G)
        · rw [if_pos (show bB false = 0 from rfl)]
          exact hz (by rw [hf]; show (if _ then _ else _) = 0; rw [c, Bool.and_false]; rfl)
        · rw [if_neg (show ¬ bB true = 0 by decide), nI_add]
          refine ⟨r, _, by omega, ⟨x + 1, C, by omega, ?_, hB.tr (c2.up (by omega))⟩, rfl⟩
          rw [hs]
          have : f x = wy G p q (plc ls li) m (k + 1) (upv v k x) := by rw [hf]; show (if _ then _ else _) = _; rw [hpl, c]; rfl
          rw [this]
      rcases (show li = 0 ∨ li = 1 by omega) with rfl | rfl
      · rw [if_pos (show nI 0 = 0 from rfl)]
        exact fin rfl
      · rw [if_neg (show ¬ nI 1 = 0 by decide)]
        by_cases c : (lsN ls k).testBit x = true
        · rw [if_pos ((lbitT lsN_lt (by omega)).mpr c)]
          exact fin (by unfold plc; rw [c, Bool.or_true])
        · rw [if_neg (fun z => c ((lbitT lsN_lt (by omega)).mp z))]
          refine hz ?_
          rw [hf]
          show (if _ then _ else _) = 0
          have : plc ls 1 k x = false := by unfold plc; simp; simpa using c
          rw [this]; rfl
