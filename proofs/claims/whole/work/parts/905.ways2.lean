/-! ways: the class -/
def apW (p far at_ : Nat) : Nat := ((2 ^ (p - 2 * far + 1) - 1) * 2 ^ far * 2 ^ at_) ||| ((2 ^ (p - 2 * far + 1) - 1) * 2 ^ far / 2 ^ (p - at_))
def apC (p far x : Nat) : Bool := (!decide (x < p)) || (!decide (2 * far ≤ p)) || (decide (f_X2_apartFrom 0 (nI x) (nI far) (fun _ _ => nI p, fun _ _ => 0) = some (lN (apW p far x))) && decide (apW p far x < 2 ^ 30) && (List.range 8).all (fun y => !decide (y < p) || ((apW p far x).testBit y == apt x y p far)))
theorem apC_d : ∀ p, p < 9 → ∀ far, far < 5 → ∀ x, x < 8 → apC p far x = true := by decide +kernel
theorem apW_d {p far x : Nat} (hp : p < 9) (hf : far < 5) (hx8 : x < 8) (hx : x < p) (h2 : 2 * far ≤ p) : f_X2_apartFrom 0 (nI x) (nI far) (fun _ _ => nI p, fun _ _ => 0) = some (lN (apW p far x)) ∧ apW p far x < 2 ^ 30 ∧ ∀ y, y < 8 → y < p → (apW p far x).testBit y = apt x y p far := by
  have h := apC_d p hp far hf x hx8
  unfold apC at h
  rw [decide_eq_true hx, decide_eq_true h2, Bool.not_true, Bool.false_or, Bool.false_or, Bool.and_eq_true, Bool.and_eq_true, decide_eq_true_iff, decide_eq_true_iff, List.all_eq_true] at h
  refine ⟨h.1.1, h.1.2, fun y hy hyp => ?_⟩
  have := h.2 y (List.mem_range.mpr hy)
  rw [decide_eq_true hyp, Bool.not_true, Bool.false_or] at this
  exact eq_of_beq this
theorem apaX {N : Nat} {M : Mem} {p far x : Nat} (h1 : M.1 26 1 = nI p) (hp : p ≤ 8) (hf : far ≤ 30) (hx : x < p) : ∃ w, w < 2 ^ 30 ∧ f_X2_apartFrom N (nI x) (nI far) M = some (lN w) ∧ ∀ y, y < p → w.testBit y = apt x y p far := by
  by_cases c : 2 * far ≤ p
  · obtain ⟨d1, d2, d3⟩ := apW_d (p := p) (far := far) (x := x) (by omega) (by omega) (by omega) hx c
    refine ⟨_, d2, ?_, fun y hy => d3 y (by omega) hy⟩
    rw [← d1]
    unfold f_X2_apartFrom
    rw [h1]
  · refine ⟨0, by omega, ?_, fun y hy => ?_⟩
    · unfold f_X2_apartFrom
      rw [h1, show (2 : Int32) = nI 2 from rfl, pk_mul, if_neg (nI_ge (by omega) (by omega))]; rfl
    · rw [Nat.zero_testBit]
      unfold apt
      by_cases e : far ≤ dst x y
      · rw [decide_eq_false (show ¬ far + dst x y ≤ p by omega), Bool.and_false]
      · rw [decide_eq_false e, Bool.false_and]
/-- only trial places have changed, from one on -/
def TrA (k : Nat) (M A : Mem) : Prop := (∀ a, a ≠ 28 → A.1 a = M.1 a) ∧ (∀ i, i < k → A.1 28 i = M.1 28 i) ∧ A.2 = M.2
theorem TrA.rf {k : Nat} {M : Mem} : TrA k M M := ⟨fun _ _ => rfl, fun _ _ => rfl, rfl⟩
theorem TrA.tr {k : Nat} {M A B : Mem} (h : TrA k M A) (h2 : TrA k A B) : TrA k M B := ⟨fun a ha => (h2.1 a ha).trans (h.1 a ha), fun i hi => (h2.2.1 i hi).trans (h.2.1 i hi), h2.2.2.trans h.2.2⟩
theorem TrA.up {k j : Nat} {M A : Mem} (h : TrA k M A) (hj : j ≤ k) : TrA j M A := ⟨h.1, fun i hi => h.2.1 i (by omega), h.2.2⟩
theorem TrA.set {k : Nat} {M : Mem} {v : Int32} : TrA k M (setI M 28 k v) := ⟨fun a ha => setI_o ha, fun i hi => by rw [setI_1, if_pos rfl, if_neg (by omega)], rfl⟩
theorem TrA.net {k : Nat} {M A : Mem} {G : Gr} {z : Int32} {ls : Nat → Int64} (h : TrA k M A) (hM : NetX M 1 G z ls) : NetX A 1 G z ls := hM.ag (fun a h1 h2 => ⟨h.1 a (by omega), by rw [h.2.2]⟩)
theorem TrA.prep {k : Nat} {M A : Mem} {G : Gr} {p q : Nat} {F : Nat → Nat} (h : TrA k M A) (hP : Prep M G p q F) : Prep A G p q F := by
  unfold Prep at *
  rw [h.1 26 (by omega), h.1 29 (by omega), h.2.2]
  exact hP
/-- trial places of points that lead to greater ones -/
def Trd (M : Mem) (G : Gr) (p k : Nat) (v : Nat → Nat) : Prop := (∀ i, i < k → (∃ l, l < gN G ∧ gA G l = i) → M.1 28 i = nI (v i)) ∧ ∀ i, i < k → v i < p
theorem opX {N : Nat} (hN : 2000 ≤ N) {G : Gr} {z : Int32} {ls : Nat → Int64} {M : Mem} (hG : GrOk G) (h : NetX M 1 G z ls) {p q : Nat} {F : Nat → Nat} (hp : p ≤ 8) (hq : q ≤ 6) (hPr : Prep M G p q F) (hF : ∀ i, i < gP G → F i < 2 ^ p) {k : Nat} {v : Nat → Nat} (hk : k < gP G) (hT : Trd M G p k v) : ∃ w, w < 2 ^ p ∧ f_X2_openTo N 1 (nI k) M = some (lN w) ∧ ∀ x, x < p → w.testBit x = ((F k).testBit x && aok G (upv v k x) p q k (gN G)) := by
  have hn := hG.2.1
  have hP := hG.1
  have h2p : 2 ^ p ≤ 2 ^ 8 := Nat.pow_le_pow_right (by omega) hp
  obtain ⟨r1, r2, r3, r4, r5⟩ := hPr
  have k6 : inb (nI k) 6 := inb_nI (by omega) (by decide)
  have cK : (nI k).toNatClampNeg = k := nI_clamp (by omega)
  unfold f_X2_openTo
  rw [ck_t k6, cK, nm_e1, r4 k hk]
  refine lp_S (S := fun o => ∃ w, w < 2 ^ p ∧ o = some (lN w) ∧ ∀ x, x < p → w.testBit x = ((F k).testBit x && aok G (upv v k x) p q k (gN G))) (fun r (a : Int64 × Int32) => ∃ l w, l + r = gN G ∧ a = (lN w, nI l) ∧ w < 2 ^ p ∧ ∀ x, x < p → w.testBit x = ((F k).testBit x && aok G (upv v k x) p q k l)) (fun r a rc hJ => ?_) N (gN G) _ ⟨0, F k, by omega, rfl, hF k hk, fun x _ => by show _ = ((F k).testBit x && true); rw [Bool.and_true]⟩ (by omega)
  obtain ⟨l, w, hr, rfl, hw, hb⟩ := hJ
  dsimp only
  rw [h.2.1]
  cases r with
  | zero =>
    left
    have e : l = gN G := by omega
    subst e
    rw [if_pos (nI_le (a := gN G) (b := gN G) (Nat.le_refl _) (by omega))]
    exact ⟨w, hw, rfl, hb⟩
  | succ r =>
    right
    have hl : l < gN G := by omega
    have l10 : inb (nI l) 10 := inb_nI (by omega) (by decide)
    have cl : (nI l).toNatClampNeg = l := nI_clamp (by omega)
    obtain ⟨-, -, k3, k4⟩ := h.2.2.2.1 l hl
    obtain ⟨-, -, -, o4, o5⟩ := hG.2.2.1 l hl
    have hg := gG_in hG hl
    have hqg : q * gG G l ≤ 6 * 5 := Nat.mul_le_mul hq hg.2
    have a6 : inb (nI (gA G l)) 6 := inb_nI (by omega) (by decide)
    have ca : (nI (gA G l)).toNatClampNeg = gA G l := nI_clamp (by omega)
    rw [if_neg (nI_ge hl (by omega))]
    simp only [jn_e, nm_e1, nI_1, ck_t l10, cl, k3, k4, ck_t a6, ca, r3 l hl]
    have hst : ∀ x, aok G (upv v k x) p q k (l + 1) = (aok G (upv v k x) p q k l && (decide (gB G l ≠ k) || apt (upv v k x (gA G l)) (upv v k x k) p (q * gG G l))) := fun x => rfl
    by_cases c : gB G l = k
    · have hak : gA G l < k := by omega
      obtain ⟨u, u1, u2, u3⟩ := apaX (N := N) (M := M) (p := p) (far := q * gG G l) (x := v (gA G l)) r1 hp (by omega) (hT.2 _ hak)
      rw [if_pos (by rw [c]), hT.1 _ hak ⟨l, hl, rfl⟩, u2, bd_s, wb_and (by omega) (by omega)]
      refine ⟨r, _, by omega, ⟨l + 1, w &&& u, by omega, rfl, Nat.lt_of_le_of_lt Nat.and_le_left hw, fun x hx => ?_⟩, rfl⟩
      rw [Nat.testBit_and, hb x hx, u3 x hx, hst x, upv_s, upv_o (show gA G l ≠ k by omega), decide_eq_false (p := gB G l ≠ k) (fun q => q c), Bool.false_or, Bool.and_assoc]
    · rw [if_neg (nI_ne (by omega) (by omega) c)]
      refine ⟨r, _, by omega, ⟨l + 1, w, by omega, rfl, hw, fun x hx => ?_⟩, rfl⟩
      rw [hb x hx, hst x, decide_eq_true (p := gB G l ≠ k) c, Bool.true_or, Bool.and_true]
theorem sm_if (c : Nat → Bool) (w : Nat) : ∀ n, sm (fun x => if c x then w else 0) n = cnt c n * w
  | 0 => (Nat.zero_mul _).symm
  | n + 1 => by
    show sm (fun x => if c x then w else 0) n + (if c n then w else 0) = (cnt c n + (c n).toNat) * w
    rw [sm_if c w n, Nat.add_mul]
    cases c n
    · show _ + 0 = _ + 0 * w; rw [Nat.zero_mul]
    · show _ + w = _ + 1 * w; rw [Nat.one_mul]
theorem wyX {N : Nat} (hN : 2000 ≤ N) {G : Gr} {z : Int32} {ls : Nat → Int64} (hG : GrOk G) {p q : Nat} {F : Nat → Nat} (hp : p ≤ 8) (hq : q ≤ 6) (hF : ∀ i, i < gP G → F i < 2 ^ p) : ∀ m dd k v M, k + m = gP G → m < dd → NetX M 1 G z ls → Prep M G p q F → Trd M G p k v → ∃ M', f_X2_countFrom N dd 1 (nI k) M = some (nI (wy G p q (fun i x => (F i).testBit x) m k v), M') ∧ TrA k M M'
  | m, 0, k, v, M, _, hd, _, _, _ => absurd hd (Nat.not_lt_zero _)
  | 0, dd + 1, k, v, M, hk, hd, hM, hPr, hT => by
    have hP := hG.1
    refine ⟨M, ?_, TrA.rf⟩
    show (if M.1 1 0 ≤ nI k then _ else _) = _
    rw [hM.1, if_pos (nI_le (by omega) (by omega))]; rfl
  | m + 1, dd + 1, k, v, M, hk, hd, hM, hPr, hT => by
    have hP := hG.1
    have hn := hG.2.1
    have hkP : k < gP G := by omega
    have k6 : inb (nI k) 6 := inb_nI (by omega) (by decide)
    have cK : (nI k).toNatClampNeg = k := nI_clamp (by omega)
    have h2p : 2 ^ p ≤ 2 ^ 8 := Nat.pow_le_pow_right (by omega) hp
    have hpm : p ^ m ≤ 8 ^ 5 := Nat.le_trans (Nat.pow_le_pow_left hp m) (Nat.pow_le_pow_right (by omega) (by omega))
    obtain ⟨w, w1, w2, w3⟩ := opX (N := N) hN hG hM hp hq hPr hF hkP hT
    show ∃ M', (if M.1 1 0 ≤ nI k then _ else _) = _ ∧ _
    rw [hM.1, if_neg (nI_ge hkP (by omega)), if_pos (show nI k < (6 : Int32) from nI_lt (b := 6) (by omega) (by decide)), w2, bd_s]
    obtain ⟨f, hf⟩ : ∃ f : Nat → Nat, f = fun x => if w.testBit x then wy G p q (fun i x => (F i).testBit x) m (k + 1) (upv v k x) else 0 := ⟨_, rfl⟩
    have hw : wy G p q (fun i x => (F i).testBit x) (m + 1) k v = sm f p := by
      rw [hf]
      exact sm_cg _ (fun x hx => by rw [w3 x hx])
    rw [hw, hPr.2.2.2.2]
    by_cases c0 : w = 0
    · rw [if_pos ((l0 (by omega)).mpr c0)]
      refine ⟨M, ?_, TrA.rf⟩
      have : sm f p = 0 := by
        rw [hf, c0]
        rw [sm_cg (g := fun _ => 0) _ (fun x _ => by rw [Nat.zero_testBit]; rfl), sm_c, Nat.zero_mul]
      rw [this]; rfl
    rw [if_neg (fun q => c0 ((l0 (by omega)).mp q))]
    have hld := ldM_lt hG (gN G) (Nat.le_refl _)
    have e0 : ((nI (ldM G (gN G)) >>> (nI k &&& 31)) &&& 1) = 0 ↔ (ldM G (gN G)).testBit k = false := by
      rw [bit1 (by omega) (by omega), ← tb_dm]
      cases (ldM G (gN G)).testBit k
      · exact ⟨fun _ => rfl, fun _ => rfl⟩
      · exact ⟨fun q => absurd q (by decide), fun q => absurd q (by decide)⟩
    by_cases c1 : (ldM G (gN G)).testBit k = false
    · rw [if_pos (e0.mpr c1), bcK (by omega), bd_s]
      have noL : ¬ ∃ l, l < gN G ∧ gA G l = k := fun q => by rw [(ldM_tb (gN G)).mpr q] at c1; exact absurd c1 (by decide)
      obtain ⟨x0, hx0⟩ := ne_tb c0
      have hx0p : x0 < p := by
        rcases Nat.lt_or_ge x0 p with q | q
        · exact q
        · rw [tb_hi w1 q] at hx0; exact absurd hx0 (by decide)
      have hT' : Trd M G p (k + 1) (upv v k x0) := ⟨fun i hi hl => by
        by_cases e : i = k
        · subst e; exact absurd hl noL
        · rw [upv_o e]; exact hT.1 i (by omega) hl, fun i hi => by
        by_cases e : i = k
        · rw [e, upv_s]; exact hx0p
        · rw [upv_o e]; exact hT.2 i (by omega)⟩
      obtain ⟨C, d1, d2⟩ := wyX hN hG hp hq hF m dd (k + 1) (upv v k x0) M (by omega) (by omega) hM hPr hT'
      have same : ∀ m' j x y u, k < j → (∀ i, i ≠ k → u i = u i) → wy G p q (fun i x => (F i).testBit x) m' j (upv u k x) = wy G p q (fun i x => (F i).testBit x) m' j (upv u k y) := by
        intro m'
        induction m' with
        | zero => intro j x y u _ _; rfl
        | succ m' ih =>
          intro j x y u hj _
          refine sm_cg _ (fun t _ => ?_)
          have hsw : ∀ s, upv (upv u k s) j t = upv (upv u j t) k s := fun s => by
            funext i
            unfold upv
            by_cases e1 : i = j
            · rw [if_pos e1, if_neg (by omega), if_pos e1]
            · rw [if_neg e1]
              by_cases e2 : i = k
              · rw [if_pos e2, if_pos e2]
              · rw [if_neg e2, if_neg e2, if_neg e1]
          have ha : aok G (upv (upv u k x) j t) p q j (gN G) = aok G (upv (upv u k y) j t) p q j (gN G) := by
            have gen : ∀ n, n ≤ gN G → aok G (upv (upv u k x) j t) p q j n = aok G (upv (upv u k y) j t) p q j n := by
              intro n
              induction n with
              | zero => intro _; rfl
              | succ n ihn =>
                intro hn'
                show (aok _ _ _ _ _ n && _) = (aok _ _ _ _ _ n && _)
                rw [ihn (by omega)]
                congr 1
                have hA : gA G n ≠ k := fun e => noL ⟨n, by omega, e⟩
                rw [upv_s, upv_s]
                by_cases e : gA G n = j
                · rw [e, upv_s, upv_s]
                · rw [upv_o e, upv_o e, upv_o hA, upv_o hA]
            exact gen _ (Nat.le_refl _)
          rw [ha, hsw x, hsw y, ih (j + 1) x y (upv u j t) (by omega) (fun _ _ => rfl)]
      rw [nI_1, d1, bd_s, pk_mul]
      refine ⟨C, ?_, d2.up (by omega)⟩
      have : sm f p = pc w * wy G p q (fun i x => (F i).testBit x) m (k + 1) (upv v k x0) := by
        rw [hf, sm_cg (g := fun x => if w.testBit x then wy G p q (fun i x => (F i).testBit x) m (k + 1) (upv v k x0) else 0) _ (fun x _ => by rw [same m (k + 1) x x0 v (by omega) (fun _ _ => rfl)]), sm_if w.testBit, pc_cntn w1 (by omega)]
      rw [this]
    · rw [if_neg (fun q => c1 (e0.mp q))]
      refine lp_S (S := fun o => ∃ M', o = some (nI (sm f p), M') ∧ TrA k M M') (fun r (a : Int32 × Int32 × Mem) => ∃ x A, x + r = p ∧ a = (nI (sm f x), nI x, A) ∧ TrA k M A) (fun r a rc hJ => ?_) N p _ ⟨0, M, by omega, rfl, TrA.rf⟩ (by omega)
      obtain ⟨x, A, hr, rfl, hA⟩ := hJ
      dsimp only
      rw [show A.1 26 1 = nI p by rw [hA.1 26 (by omega)]; exact hPr.1]
      cases r with
      | zero =>
        left
        have e : x = p := by omega
        subst e
        rw [if_pos (nI_le (Nat.le_refl _) (by omega))]
        exact ⟨A, rfl, hA⟩
      | succ r =>
        right
        have hx : x < p := by omega
        have hB : TrA k M (setI A 28 k (nI x)) := hA.tr TrA.set
        have hT' : Trd (setI A 28 k (nI x)) G p (k + 1) (upv v k x) := ⟨fun i hi hl => by
          by_cases e : i = k
          · subst e; rw [upv_s]; simp [setI_1]
          · rw [upv_o e, hB.2.1 i (by omega)]; exact hT.1 i (by omega) hl, fun i hi => by
          by_cases e : i = k
          · rw [e, upv_s]; exact hx
          · rw [upv_o e]; exact hT.2 i (by omega)⟩
        obtain ⟨C, d1, d2⟩ := wyX hN hG hp hq hF m dd (k + 1) (upv v k x) (setI A 28 k (nI x)) (by omega) (by omega) (hB.net hM) (hB.prep hPr) hT'
        rw [if_neg (nI_ge hx (by omega))]
        simp only [jn_e, nm_e1, nI_1, ck_t k6, cK, d1, bd_s]
        have hs : sm f (x + 1) = sm f x + f x := rfl
        by_cases c : w.testBit x = true
        · rw [if_pos ((lbitT (by omega) (by omega)).mpr c), nI_add]
          have e : f x = wy G p q (fun i x => (F i).testBit x) m (k + 1) (upv v k x) := by rw [hf]; show (if _ then _ else _) = _; rw [c]; rfl
          exact ⟨r, _, by omega, ⟨x + 1, C, by omega, by rw [hs, e], hB.tr (d2.up (by omega))⟩, rfl⟩
        · rw [if_neg (fun z => c ((lbitT (by omega) (by omega)).mp z))]
          have e : f x = 0 := by rw [hf]; show (if _ then _ else _) = _; rw [if_neg c]
          have hs0 : sm f (x + 1) = sm f x := by rw [hs, e]; rfl
          exact ⟨r, _, by omega, ⟨x + 1, A, by omega, by rw [hs0], hA⟩, rfl⟩
/-! a colouring can be turned round the circle -/
theorem apt_sh {x y s p r : Nat} (hx : x < p) (hy : y < p) (hs : s < p) : apt ((x + s) % p) ((y + s) % p) p r = apt x y p r := by
  have ex : (x + s) % p = if x + s < p then x + s else x + s - p := by
    split
    · exact Nat.mod_eq_of_lt (by omega)
    · rw [Nat.mod_eq_sub_mod (by omega), Nat.mod_eq_of_lt (by omega)]
  have ey : (y + s) % p = if y + s < p then y + s else y + s - p := by
    split
    · exact Nat.mod_eq_of_lt (by omega)
    · rw [Nat.mod_eq_sub_mod (by omega), Nat.mod_eq_of_lt (by omega)]
  rw [ex, ey]
  unfold apt dst
  rw [← Bool.decide_and, ← Bool.decide_and]
  apply decide_eq_decide.mpr
  split <;> split <;> omega
theorem sm_app (f : Nat → Nat) (a : Nat) : ∀ b, sm f (a + b) = sm f a + sm (fun x => f (a + x)) b
  | 0 => rfl
  | b + 1 => by show sm f (a + b) + f (a + b) = sm f a + (sm (fun x => f (a + x)) b + f (a + b)); rw [sm_app f a b]; omega
theorem sm_rot (f : Nat → Nat) {s p : Nat} (hs : s < p) : sm (fun x => f ((x + s) % p)) p = sm f p := by
  have e1 := sm_app (fun x => f ((x + s) % p)) (p - s) s
  have e2 := sm_app f s (p - s)
  rw [show p - s + s = p by omega] at e1
  rw [show s + (p - s) = p by omega] at e2
  rw [e1, e2]
  have h1 : sm (fun x => f ((x + s) % p)) (p - s) = sm (fun x => f (s + x)) (p - s) := sm_cg _ (fun x hx => by rw [Nat.mod_eq_of_lt (by omega), Nat.add_comm])
  have h2 : sm (fun x => f ((p - s + x + s) % p)) s = sm f s := sm_cg _ (fun x hx => by rw [show p - s + x + s = x + p by omega, Nat.add_mod_right, Nat.mod_eq_of_lt (by omega)])
  rw [h1, h2]; omega
theorem aok_sh {G : Gr} {v w : Nat → Nat} {p q b s : Nat} (hs : s < p) : ∀ n, (∀ l, l < n → gB G l = b → v (gA G l) < p ∧ w (gA G l) = (v (gA G l) + s) % p) → v b < p → w b = (v b + s) % p → aok G w p q b n = aok G v p q b n
  | 0, _, _, _ => rfl
  | n + 1, h, hb, hw => by
    show (aok G w p q b n && _) = (aok G v p q b n && _)
    rw [aok_sh hs n (fun l hl => h l (by omega)) hb hw]
    congr 1
    by_cases c : gB G n = b
    · obtain ⟨h1, h2⟩ := h n (by omega) c
      rw [h2, hw, apt_sh h1 hb hs]
    · rw [decide_eq_true (p := gB G n ≠ b) c, Bool.true_or, Bool.true_or]
theorem wy_sh {G : Gr} (hG : GrOk G) {p q s : Nat} (hs : s < p) : ∀ m k v w, (∀ i, i < k → v i < p ∧ w i = (v i + s) % p) → wy G p q (fun _ _ => true) m k w = wy G p q (fun _ _ => true) m k v
  | 0, _, _, _, _ => rfl
  | m + 1, k, v, w, h => by
    show sm _ p = sm _ p
    rw [← sm_rot (fun x => if (true && aok G (upv w k x) p q k (gN G)) = true then wy G p q (fun _ _ => true) m (k + 1) (upv w k x) else 0) hs]
    refine sm_cg _ (fun x hx => ?_)
    have hv : ∀ i, i < k + 1 → upv v k x i < p ∧ upv w k ((x + s) % p) i = (upv v k x i + s) % p := fun i hi => by
      by_cases c : i = k
      · subst c; rw [upv_s, upv_s]; exact ⟨hx, rfl⟩
      · rw [upv_o c, upv_o c]; exact h i (by omega)
    dsimp only
    rw [aok_sh (v := upv v k x) hs (gN G) (fun l hl e => hv _ (by have := (hG.2.2.1 l hl).2.2.2.1; omega)) (hv k (by omega)).1 (hv k (by omega)).2, wy_sh hG hs m (k + 1) (upv v k x) (upv w k ((x + s) % p)) hv]
theorem aok_0 {G : Gr} (hG : GrOk G) {v : Nat → Nat} {p q : Nat} : aok G v p q 0 (gN G) = true := (aok_all (gN G)).mpr (fun l hl e => by have := (hG.2.2.1 l hl).2.2.2.1; omega)
theorem s_9 {N : Nat} (hN : 2000 ≤ N) : St_9 N Rel := by
  intro Mx Mm a0 a1 a2 h
  apply rr_st
  obtain ⟨G, z, ls, hc⟩ := id h
  have hG := hc.1
  have hP := hG.1
  unfold f_X7_ways f_X8_ways
  rw [within_e, inI_e N a0 1 8 Mm (by decide) (by decide), bd_s, bd_s, ite_bI, ite_bI]
  refine rr_ite Iff.rfl (fun h0 => ?_) (fun _ => rr_ret ⟨rfl, h⟩)
  rw [within_e, inI_e N a1 1 6 Mm (by decide) (by decide), bd_s, bd_s, ite_bI, ite_bI]
  refine rr_ite Iff.rfl (fun h1 => ?_) (fun _ => rr_ret ⟨rfl, h⟩)
  rw [within_e, inI_e N a2 0 1 Mm (by decide) (by decide), bd_s, bd_s, ite_bI, ite_bI]
  refine rr_ite Iff.rfl (fun h2 => ?_) (fun _ => rr_ret ⟨rfl, h⟩)
  have le01 : ∀ x : Int32, 1 ≤ x → 0 ≤ x := fun x hx => by rw [i_le] at *; have e1 : (1 : Int32).toInt = 1 := rfl; have e0 : (0 : Int32).toInt = 0 := rfl; omega
  obtain ⟨p, hp, rfl⟩ := nI_of_le 8 (by decide) ⟨le01 _ h0.1, h0.2⟩
  obtain ⟨q, hq, rfl⟩ := nI_of_le 6 (by decide) ⟨le01 _ h1.1, h1.2⟩
  obtain ⟨li, hli, rfl⟩ := nI_of_le 1 (by decide) h2
  have hp1 : 1 ≤ p := (nI_leI (a := 1) (by decide) (by omega)).mp h0.1
  obtain ⟨X, x1, x2, x3⟩ := prepX (N := N) hN hG hc.2.1 (p := p) (q := q) (li := li) (by omega) hq hli
  have hXX : NetX X 1 G z ls := hc.2.1.ag (fun a q1 q2 => x2 a (by simp; omega))
  rw [x1, bd_s, nm_e1, nm_e1]
  have hMA : NetM (setI (setI Mm 0 12 (nI p)) 0 13 (nI q)) G z ls := hc.2.2.1.ag (fun j hj => by simp [setI_1]; rw [if_neg (by omega), if_neg (by omega)]) (fun a q1 q2 => ⟨by rw [setI_o (by omega), setI_o (by omega)], rfl⟩)
  obtain ⟨B, b1, b2⟩ := wyM (N := N) hN hG (p := p) (q := q) (li := li) hp hq hli (gP G) 10 0 (fun _ => 0) _ (by omega) (by omega) hMA (by simp [setI_1]; exact hc.2.2.2.1) (by simp [setI_1]) (by simp [setI_1]) (fun i hi => absurd hi (Nat.not_lt_zero _))
  have hsM : ScrM Mm B := by
    have e : ∀ j, j ≠ 12 → j ≠ 13 → B.1 0 j = Mm.1 0 j := fun j j1 j2 => by rw [b2.1 0 (by omega)]; simp [setI_1]; rw [if_neg j2, if_neg j1]
    have e2 : ∀ a, a ≠ 0 → a ≠ 7 → B.1 a = Mm.1 a := fun a a1 a2 => by rw [b2.1 a a2, setI_o a1, setI_o a1]
    have e3 : B.2 = Mm.2 := b2.2.2
    exact ⟨fun j hj => e j (by omega) (by omega), fun a ha => ⟨e2 a (by omega) (by omega), by rw [e3]⟩, fun j _ => by rw [e2 23 (by omega) (by omega)], fun j _ => by rw [e2 24 (by omega) (by omega)], fun j _ => by rw [e3]⟩
  have b1' : f_X8_waysFrom N 10 0 (nI li) (setI (setI Mm 0 12 (nI p)) 0 13 (nI q)) = some (nI (wy G p q (plc ls li) (gP G) 0 fun _ => 0), B) := b1
  rw [b1', bd_s]
  have hsX : ∀ Y, Ag [26, 28, 29, 30] Mx Y → ScrX Mx Y ∧ Bk Y G := fun Y hY => ⟨⟨by rw [(hY 0 (by simp)).1], by rw [(hY 31 (by simp)).1], fun a ha => hY a (by simp; omega)⟩, hc.2.2.2.2.1.ag (fun a q1 q2 => (hY a (by simp; omega)).1)⟩
  have x2' : Ag [26, 28, 29, 30] Mx X := x2.up (fun a ha => by simp at ha ⊢; omega)
  have fin : ∀ (r : Nat) Y, Ag [26, 28, 29, 30] Mx Y → r = wy G p q (plc ls li) (gP G) 0 (fun _ => 0) → RR PR (some (nI r, Y)) (some (nI (wy G p q (plc ls li) (gP G) 0 fun _ => 0), B)) := fun r Y hY e => rr_ret ⟨by show nI r = nI _; rw [e], Rel.scr hc (hsX Y hY).1 hsM (hsX Y hY).2⟩
  unfold f_X2_countAll
  simp only [jn_e]
  rw [hXX.1]
  have plain : RR PR (bd (bd (f_X2_countFrom N 10 1 0 X) (fun w3 => some (w3.1, w3.2))) (fun w11 => some (w11.1, w11.2))) (some (nI (wy G p q (plc ls li) (gP G) 0 fun _ => 0), B)) := by
    obtain ⟨C, d1, d2⟩ := wyX (N := N) hN hG (F := fre ls li p) hp hq (fun i _ => fre_lt) (gP G) 10 0 (fun _ => 0) X (by omega) (by omega) hXX x3 ⟨fun i hi => absurd hi (Nat.not_lt_zero _), fun i hi => absurd hi (Nat.not_lt_zero _)⟩
    have d1' : f_X2_countFrom N 10 1 0 X = _ := d1
    rw [d1', bd_s, bd_s]
    refine fin _ C (x2'.tr (fun a ha => ⟨d2.1 a (by simp at ha; omega), by rw [d2.2.2]⟩)) ?_
    exact wy_cg hG _ _ _ _ (fun i hi => rfl) (fun i x _ hx => fre_tb hx)
  by_cases c1 : li = 1
  · rw [if_pos (show nI li = 1 by rw [c1]; rfl)]
    exact plain
  · have c0 : li = 0 := by omega
    rw [if_neg (show ¬ nI li = 1 by rw [c0]; decide)]
    by_cases c2 : gP G = 0
    · rw [if_pos (by rw [c2]; rfl)]
      exact plain
    · rw [if_neg (nI_ne0 (by omega) (by omega)), ck_t (by decide), nm_e1]
      have hY : Ag [26, 28, 29, 30] Mx (setJ X 30 (0 : Int32).toNatClampNeg 1) := x2'.tr (Ag.setJ (by simp))
      have e30 : (0 : Int32).toNatClampNeg = 0 := by decide
      rw [e30] at hY ⊢
      have hXY : NetX (setJ X 30 0 1) 1 G z ls := hXX.ag (fun a q1 q2 => ⟨rfl, setJ_o (by omega)⟩)
      have hPY : Prep (setJ X 30 0 1) G p q (upv (fre ls li p) 0 1) := by
        obtain ⟨r1, r2, r3, r4, r5⟩ := x3
        refine ⟨r1, r2, r3, fun i hi => ?_, r5⟩
        rw [setJ_2, if_pos rfl]
        by_cases e : i = 0
        · rw [if_pos e, e, upv_s]; rfl
        · rw [if_neg e, upv_o e]; exact r4 i hi
      have hp2 : 1 < 2 ^ p := Nat.one_lt_two_pow (by omega)
      obtain ⟨C, d1, d2⟩ := wyX (N := N) hN hG (F := upv (fre ls li p) 0 1) hp hq (fun i _ => by
        by_cases e : i = 0
        · rw [e, upv_s]; exact hp2
        · rw [upv_o e]; exact fre_lt) (gP G) 10 0 (fun _ => 0) _ (by omega) (by omega) hXY hPY ⟨fun i hi => absurd hi (Nat.not_lt_zero _), fun i hi => absurd hi (Nat.not_lt_zero _)⟩
      have d1' : f_X2_countFrom N 10 1 0 (setJ X 30 0 1) = _ := d1
      rw [d1', bd_s, bd_s]
      have e26 : (setJ X 30 0 1).1 26 1 = nI p := x3.1
      dsimp only
      rw [e26, pk_mul]
      refine fin _ C (hY.tr (fun a ha => ⟨d2.1 a (by simp at ha; omega), by rw [d2.2.2]⟩)) ?_
      obtain ⟨m, hm⟩ : ∃ m, gP G = m + 1 := ⟨gP G - 1, by omega⟩
      rw [hm]
      have eL : wy G p q (plc ls li) (m + 1) 0 (fun _ => 0) = wy G p q (fun _ _ => true) (m + 1) 0 (fun _ => 0) := wy_cg hG _ _ _ _ (fun i hi => rfl) (fun i x _ _ => by unfold plc; rw [decide_eq_true c1]; rfl)
      rw [eL]
      have eR : wy G p q (fun _ _ => true) (m + 1) 0 (fun _ => 0) = p * wy G p q (fun _ _ => true) m 1 (upv (fun _ => 0) 0 0) := by
        show sm _ p = _
        rw [sm_cg (g := fun _ => wy G p q (fun _ _ => true) m 1 (upv (fun _ => 0) 0 0)) _ (fun x hx => by
          dsimp only
          rw [aok_0 hG, Bool.and_true, if_pos rfl]
          refine wy_sh hG (s := x) hx m 1 _ _ (fun i hi => ?_)
          have : i = 0 := by omega
          rw [this, upv_s, upv_s, Nat.zero_add, Nat.mod_eq_of_lt hx]
          exact ⟨by omega, rfl⟩), sm_c, Nat.mul_comm]
      rw [eR]
      congr 1
      obtain ⟨p', hp'⟩ : ∃ p', p = 1 + p' := ⟨p - 1, by omega⟩
      show sm _ p = _
      have : sm (fun x => if ((upv (fre ls li p) 0 1 0).testBit x && aok G (upv (fun _ => 0) 0 x) p q 0 (gN G)) = true then wy G p q (fun i x => (upv (fre ls li p) 0 1 i).testBit x) m (0 + 1) (upv (fun _ => 0) 0 x) else 0) p = wy G p q (fun i x => (upv (fre ls li p) 0 1 i).testBit x) m (0 + 1) (upv (fun _ => 0) 0 0) := by
        generalize hFF : (fun x => if ((upv (fre ls li p) 0 1 0).testBit x && aok G (upv (fun _ => 0) 0 x) p q 0 (gN G)) = true then wy G p q (fun i x => (upv (fre ls li p) 0 1 i).testBit x) m (0 + 1) (upv (fun _ => 0) 0 x) else 0) = FF
        have h00 : FF 0 = wy G p q (fun i x => (upv (fre ls li p) 0 1 i).testBit x) m (0 + 1) (upv (fun _ => 0) 0 0) := by
          rw [← hFF]
          dsimp only
          rw [upv_s, aok_0 hG]; rfl
        have hz : ∀ x, FF (1 + x) = 0 := fun x => by
          rw [← hFF]
          dsimp only
          rw [upv_s, show (1 : Nat).testBit (1 + x) = false from by rw [show (1 : Nat) = 2 ^ 0 from rfl, Nat.testBit_two_pow]; exact decide_eq_false (by omega)]
          rfl
        rw [hp', sm_app FF 1 p', sm_cg (f := fun x => FF (1 + x)) (g := fun _ => 0) _ (fun x _ => hz x), sm_c, Nat.zero_mul, Nat.add_zero]
        show sm FF 0 + FF 0 = _
        rw [← hp', h00]
        exact Nat.zero_add _
      rw [this]
      refine wy_cg hG _ _ _ _ (fun i hi => rfl) (fun i x hi hx => ?_)
      rw [upv_o (by omega), fre_tb hx]
      unfold plc; rw [decide_eq_true c1]; rfl
