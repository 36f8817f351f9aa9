/-! whether the rest of a part can get places -/
def EW (G : Gr) (p q : Nat) (pt : Nat → Bool) (mm c : Nat → Nat) : Prop := (∀ i, i < gP G → pt i = true → c i < p ∧ (mm i).testBit (c i) = true) ∧ ∀ l, l < gN G → pt (gA G l) = true → pt (gB G l) = true → apt (c (gA G l)) (c (gB G l)) p (q * gG G l) = true
def InvE (G : Gr) (p q : Nat) (pt : Nat → Bool) (mm : Nat → Nat) : Prop := ∀ l, l < gN G → ∀ k, inc G l k = true → pt k = true → pt (oth G l k) = false → mm (oth G l k) ≠ 0 ∧ ∀ x y, (mm k).testBit x = true → (mm (oth G l k)).testBit y = true → apt x y p (q * gG G l) = true
theorem inc_lt {G : Gr} (hG : GrOk G) {l k : Nat} (hl : l < gN G) (h : inc G l k = true) : k < gP G := by
  obtain ⟨-, -, -, o4, o5⟩ := hG.2.2.1 l hl
  unfold inc at h
  simp at h
  omega
theorem oth_oth {G : Gr} (hG : GrOk G) {l k : Nat} (hl : l < gN G) (h : inc G l k = true) : oth G l (oth G l k) = k := by
  obtain ⟨-, -, -, o4, o5⟩ := hG.2.2.1 l hl
  unfold inc at h
  simp at h
  unfold oth
  split <;> split <;> omega
theorem EW.line {G : Gr} {p q : Nat} {pt : Nat → Bool} {mm c : Nat → Nat} (h : EW G p q pt mm c) {l k : Nat} (hl : l < gN G) (hi : inc G l k = true) (h1 : pt k = true) (h2 : pt (oth G l k) = true) : apt (c k) (c (oth G l k)) p (q * gG G l) = true := by
  unfold inc at hi
  simp at hi
  by_cases e : gA G l = k
  · have ho : oth G l k = gB G l := if_pos e
    rw [ho] at h2 ⊢
    rw [← e] at h1 ⊢
    exact h.2 l hl h1 h2
  · have e2 : gB G l = k := by omega
    have ho : oth G l k = gA G l := if_neg e
    rw [ho] at h2 ⊢
    rw [← e2] at h1 ⊢
    rw [apt_cm]
    exact h.2 l hl h2 h1
def dropP (pt : Nat → Bool) (k : Nat) : Nat → Bool := fun i => pt i && !decide (i = k)
theorem dropP_t {pt : Nat → Bool} {k i : Nat} : dropP pt k i = true ↔ pt i = true ∧ i ≠ k := by unfold dropP; simp
/-- one of those that can be: then that place goes -/
theorem EW.inn {G : Gr} (hG : GrOk G) {p q k : Nat} {pt : Nat → Bool} {mm nw c : Nat → Nat} (h : EW G p q pt mm c) (hI : InvE G p q pt mm) (hk : k < gP G) (hpk : pt k = true) (hN : NwS G p q k (c k) mm nw (gN G)) : (∀ l, l < gN G → inc G l k = true → nw (oth G l k) ≠ 0) ∧ EW G p q (dropP pt k) nw c := by
  constructor
  · intro l hl hi
    have hon := (oth_ne hG hl hi).1
    have hoP := inc_lt hG hl (oth_inc hi)
    cases hp : pt (oth G l k)
    · obtain ⟨h1, h2⟩ := hI l hl k hi hpk hp
      obtain ⟨y, hy⟩ := ne_tb h1
      intro e
      have h3 := (hN _ hoP).2.2 hon y
      rw [e, Nat.zero_testBit, hy, Bool.true_and] at h3
      have : nbk G p q k (c k) (oth G l k) y (gN G) = true := (nbk_all (gN G)).mpr (fun l' hl' i1 i2 => by
        have := hI l' hl' k i1 hpk (by rw [i2]; exact hp)
        exact this.2 (c k) y (h.1 k hk hpk).2 (by rw [i2]; exact hy))
      rw [this] at h3; exact absurd h3 (by decide)
    · intro e
      have h3 := (hN _ hoP).2.2 hon (c (oth G l k))
      rw [e, Nat.zero_testBit, (h.1 _ hoP hp).2, Bool.true_and] at h3
      have : nbk G p q k (c k) (oth G l k) (c (oth G l k)) (gN G) = true := (nbk_all (gN G)).mpr (fun l' hl' i1 i2 => by
        have := h.line hl' i1 hpk (by rw [i2]; exact hp)
        rw [i2] at this; exact this)
      rw [this] at h3; exact absurd h3 (by decide)
  · refine ⟨fun i hi hp => ?_, fun l hl h1 h2 => h.2 l hl (dropP_t.mp h1).1 (dropP_t.mp h2).1⟩
    obtain ⟨p1, p2⟩ := dropP_t.mp hp
    refine ⟨(h.1 i hi p1).1, ?_⟩
    rw [(hN i hi).2.2 p2, (h.1 i hi p1).2, Bool.true_and]
    refine (nbk_all (gN G)).mpr (fun l' hl' i1 i2 => ?_)
    have := h.line hl' i1 hpk (by rw [i2]; exact p1)
    rw [i2] at this; exact this
theorem EW.out {G : Gr} (hG : GrOk G) {p q k x : Nat} {pt : Nat → Bool} {mm nw c : Nat → Nat} (hx : x < p) (hmx : (mm k).testBit x = true) (hN : NwS G p q k x mm nw (gN G)) (h : EW G p q (dropP pt k) nw c) : EW G p q pt mm (upv c k x) := by
  have hnb : ∀ i, i < gP G → i ≠ k → pt i = true → (mm i).testBit (c i) = true ∧ ∀ l, l < gN G → inc G l k = true → oth G l k = i → apt x (c i) p (q * gG G l) = true := fun i hi e hp => by
    have h1 := (h.1 i hi (dropP_t.mpr ⟨hp, e⟩)).2
    rw [(hN i hi).2.2 e, Bool.and_eq_true, nbk_all] at h1
    exact h1
  refine ⟨fun i hi hp => ?_, fun l hl h1 h2 => ?_⟩
  · by_cases e : i = k
    · rw [e, upv_s]; exact ⟨hx, hmx⟩
    · rw [upv_o e]; exact ⟨(h.1 i hi (dropP_t.mpr ⟨hp, e⟩)).1, (hnb i hi e hp).1⟩
  · obtain ⟨-, -, -, o4, o5⟩ := hG.2.2.1 l hl
    by_cases e1 : gA G l = k
    · have e2 : gB G l ≠ k := by omega
      rw [e1, upv_s, upv_o e2]
      exact (hnb _ o5 e2 h2).2 l hl (by simp [inc, e1]) (if_pos e1)
    · by_cases e2 : gB G l = k
      · rw [e2, upv_s, upv_o e1, apt_cm]
        exact (hnb _ (by omega) e1 h1).2 l hl (by simp [inc, e2]) (if_neg e1)
      · rw [upv_o e1, upv_o e2]
        exact h.2 l hl (dropP_t.mpr ⟨h1, e1⟩) (dropP_t.mpr ⟨h2, e2⟩)
theorem InvE.st {G : Gr} (hG : GrOk G) {p q k x : Nat} {pt : Nat → Bool} {mm nw : Nat → Nat} (hI : InvE G p q pt mm) (hN : NwS G p q k x mm nw (gN G)) (hok : ∀ l, l < gN G → inc G l k = true → nw (oth G l k) ≠ 0) : InvE G p q (dropP pt k) nw := by
  intro l hl k' i1 hp ho
  obtain ⟨p1, p2⟩ := dropP_t.mp hp
  have hk' := inc_lt hG hl i1
  have hoP := inc_lt hG hl (oth_inc i1)
  by_cases e : oth G l k' = k
  · have hil : inc G l k = true := by rw [← e]; exact oth_inc i1
    have hol : oth G l k = k' := by rw [← e]; exact oth_oth hG hl i1
    have hnk : nw k = 2 ^ x := (hN k (by rw [← e]; exact hoP)).2.1 rfl
    rw [e, hnk]
    refine ⟨by have := Nat.two_pow_pos x; omega, fun x' y hx' hy => ?_⟩
    rw [Nat.testBit_two_pow] at hy
    simp at hy
    rw [(hN k' hk').2.2 p2, Bool.and_eq_true, nbk_all] at hx'
    rw [← hy, apt_cm]
    exact hx'.2 l hl hil hol
  · have hpo : pt (oth G l k') = false := by
      cases c : pt (oth G l k')
      · rfl
      · rw [dropP_t.mpr ⟨c, e⟩] at ho; exact absurd ho (by decide)
    obtain ⟨h1, h2⟩ := hI l hl k' i1 p1 hpo
    constructor
    · by_cases z : ∃ l', l' < gN G ∧ inc G l' k = true ∧ oth G l' k = oth G l k'
      · obtain ⟨l', z1, z2, z3⟩ := z
        rw [← z3]; exact hok l' z1 z2
      · obtain ⟨y, hy⟩ := ne_tb h1
        intro e0
        have h3 := (hN _ hoP).2.2 e y
        rw [e0, Nat.zero_testBit, hy, Bool.true_and] at h3
        have : nbk G p q k x (oth G l k') y (gN G) = true := (nbk_all (gN G)).mpr (fun l' hl' j1 j2 => absurd ⟨l', hl', j1, j2⟩ z)
        rw [this] at h3; exact absurd h3 (by decide)
    · intro x' y hx' hy
      rw [(hN k' hk').2.2 p2, Bool.and_eq_true] at hx'
      rw [(hN _ hoP).2.2 e, Bool.and_eq_true] at hy
      exact h2 x' y hx'.1 hy.1
theorem adn_drop {w k : Nat} : (adn w (2 ^ k)).testBit = dropP w.testBit k := by
  funext i
  rw [adn_tb, Nat.testBit_two_pow]
  unfold dropP
  by_cases e : i = k
  · subst e; simp
  · rw [decide_eq_false e, decide_eq_false (fun q => e q.symm)]
theorem endM {N : Nat} (hN : 2000 ≤ N) {G : Gr} {z : Int32} {ls : Nat → Int64} (hG : GrOk G) {p q : Nat} (hp : p ≤ 40) (hq : q ≤ 6) : ∀ dd a w M mm, cnt w.testBit (gP G) < dd → a + cnt w.testBit (gP G) ≤ 6 → w < 2 ^ gP G → NetM M G z ls → M.1 0 8 = -1 → M.1 0 12 = nI p → M.1 0 13 = nI q → Lay M G p a mm → InvE G p q w.testBit mm → ∃ b M', f_X8_ends N dd (nI a) (nI w) M = some (bB b, M') ∧ MyA a M M' ∧ (b = true ↔ ∃ c, EW G p q w.testBit mm c)
  | 0, a, w, M, mm, hd, _, _, _, _, _, _, _, _ => absurd hd (Nat.not_lt_zero _)
  | dd + 1, a, w, M, mm, hd, ha, hw, hM, h8, h12, h13, hL, hI => by
    have hn := hG.2.1
    have hP := hG.1
    have h2P : 2 ^ gP G ≤ 2 ^ 6 := Nat.pow_le_pow_right (by omega) hP
    have h2p : 2 ^ p ≤ 2 ^ 40 := Nat.pow_le_pow_right (by omega) hp
    show ∃ b M', (lp _ N _) = some (bB b, M') ∧ _
    refine lp_S (S := fun o => ∃ b M', o = some (bB b, M') ∧ MyA a M M' ∧ (b = true ↔ ∃ c, EW G p q w.testBit mm c)) (fun n (c : Int32 × Int32) => ∃ i f, i + n = gP G ∧ c = (f, nI i) ∧ ((f = -1 ∧ ∀ j, j < i → w.testBit j = false) ∨ ∃ k, k < i ∧ f = nI k ∧ w.testBit k = true)) (fun n c rc hJ => ?_) N (gP G) _ ⟨0, -1, by omega, rfl, Or.inl ⟨rfl, fun j hj => absurd hj (Nat.not_lt_zero _)⟩⟩ (by omega)
    obtain ⟨i, f, hi, rfl, hf⟩ := hJ
    have em1 : (-1 : Int32).toInt = -1 := rfl
    dsimp only
    rw [hM.1]
    cases n with
    | succ n =>
      right
      have hiP : i < gP G := by omega
      rw [if_neg (nI_ge hiP (by omega)), hasM (by omega) (by omega), bd_s]
      simp only [jn_e, nm_e1, nI_1]
      have keep : (w.testBit i = true → f ≠ -1) → ∃ m c, m < n + 1 ∧ (∃ i f, i + m = gP G ∧ c = (f, nI i) ∧ ((f = -1 ∧ ∀ j, j < i → w.testBit j = false) ∨ ∃ k, k < i ∧ f = nI k ∧ w.testBit k = true)) ∧ rc (f, nI (i + 1)) = rc c := fun hne => by
        refine ⟨n, _, by omega, ⟨i + 1, f, by omega, rfl, ?_⟩, rfl⟩
        rcases hf with ⟨f1, f2⟩ | ⟨k, k1, k2, k3⟩
        · refine Or.inl ⟨f1, fun j hj => ?_⟩
          by_cases e : j = i
          · cases c : w.testBit i
            · rw [e]; exact c
            · exact absurd f1 (hne c)
          · exact f2 j (by omega)
        · exact Or.inr ⟨k, by omega, k2, k3⟩
      have take : w.testBit i = true → ∃ m c, m < n + 1 ∧ (∃ i f, i + m = gP G ∧ c = (f, nI i) ∧ ((f = -1 ∧ ∀ j, j < i → w.testBit j = false) ∨ ∃ k, k < i ∧ f = nI k ∧ w.testBit k = true)) ∧ rc (nI i, nI (i + 1)) = rc c := fun hb => ⟨n, _, by omega, ⟨i + 1, nI i, by omega, rfl, Or.inr ⟨i, by omega, rfl, hb⟩⟩, rfl⟩
      cases hb : w.testBit i
      · rw [if_pos (show bB false = 0 from rfl)]
        exact keep (fun q => by rw [hb] at q; exact absurd q (by decide))
      · rw [if_neg (show ¬ bB true = 0 by decide)]
        rcases hf with ⟨f1, f2⟩ | ⟨k, k1, k2, k3⟩
        · rw [if_pos f1]; exact take hb
        · have fn : ¬ f = -1 := fun q => by rw [k2] at q; have := congrArg Int32.toInt q; rw [nI_toInt (by omega)] at this; omega
          have ha5 : a ≤ 5 := by
            have := cnt_pos (p := w.testBit) (n := gP G) (show k < gP G by omega) k3
            omega
          have ii42 : inb (nI (6 * a + i)) 42 := inb_nI (by omega) (by decide)
          have kk42 : inb (nI (6 * a + k)) 42 := inb_nI (by omega) (by decide)
          have ci42 : (nI (6 * a + i)).toNatClampNeg = 6 * a + i := nI_clamp (by omega)
          have ck42 : (nI (6 * a + k)).toNatClampNeg = 6 * a + k := nI_clamp (by omega)
          rw [if_neg fn, k2]
          simp only [ix6', ck_t ii42, ck_t kk42, ci42, ck42, (hL i hiP).1, (hL k (by omega)).1]
          obtain ⟨v1, q1⟩ := btML (N := N) (M := M) hN (m := mm i) (by have := (hL i hiP).2; omega)
          obtain ⟨v2, q2⟩ := btML (N := N) (M := M) hN (m := mm k) (by have := (hL k (by omega)).2; omega)
          rw [q1, bd_s, q2, bd_s]
          by_cases c : v2 ≤ v1
          · rw [if_pos c, ← k2]; exact keep (fun _ => fn)
          · rw [if_neg c]; exact take hb
    | zero =>
      left
      have ei : i = gP G := by omega
      subst ei
      rw [if_pos (nI_le (a := gP G) (b := gP G) (Nat.le_refl _) (by omega))]
      rcases hf with ⟨f1, f2⟩ | ⟨k, k1, k2, k3⟩
      · rw [if_pos f1]
        refine ⟨true, M, rfl, MyA.rf, fun _ => ⟨fun _ => 0, fun i hi hp => ?_, fun l hl h1 _ => ?_⟩, fun _ => rfl⟩
        · rw [f2 i hi] at hp; exact absurd hp (by decide)
        · have := (hG.2.2.1 l hl).2.2.2
          rw [f2 _ (by omega)] at h1; exact absurd h1 (by decide)
      · have fn : ¬ f = -1 := fun q => by rw [k2] at q; have := congrArg Int32.toInt q; rw [nI_toInt (by omega)] at this; omega
        have hcp := cnt_pos (p := w.testBit) (n := gP G) k1 k3
        have hcd : cnt (adn w (2 ^ k)).testBit (gP G) + 1 = cnt w.testBit (gP G) := by
          have := cnt_upd (p := (adn w (2 ^ k)).testBit) (q := w.testBit) (m := k) (by rw [adn_drop]; unfold dropP; simp) k3 (fun j hj => by rw [adn_drop]; unfold dropP; rw [decide_eq_false hj]; simp) (gP G)
          rw [if_pos k1] at this
          omega
        rw [if_neg fn, k2]
        refine lp_S (S := fun o => ∃ b M', o = some (bB b, M') ∧ MyA a M M' ∧ (b = true ↔ ∃ c, EW G p q w.testBit mm c)) (fun r (c : Int32 × Mem) => ∃ x A, x + r = p ∧ c = (nI x, A) ∧ MyA a M A ∧ ∀ c, EW G p q w.testBit mm c → x ≤ c k) (fun r c rc hJ => ?_) N p _ ⟨0, M, by omega, rfl, MyA.rf, fun c _ => Nat.zero_le _⟩ (by omega)
        obtain ⟨x, A, hx, rfl, hA, hlow⟩ := hJ
        dsimp only
        have hMA := hA.net hM
        rw [show A.1 0 12 = nI p by rw [hA.1]; exact h12]
        cases r with
        | zero =>
          left
          have e : x = p := by omega
          subst e
          rw [if_pos (nI_le (Nat.le_refl _) (by omega))]
          refine ⟨false, A, rfl, hA, fun q => absurd q (by decide), fun ⟨c, hc⟩ => ?_⟩
          have h1 := hlow c hc
          have h2 := (hc.1 k k1 k3).1
          omega
        | succ r =>
          have hxp : x < p := by omega
          have hLA := hA.lay hG hL (Nat.le_refl a)
          have k42 : inb (nI (6 * a + k)) 42 := inb_nI (by omega) (by decide)
          have c42 : (nI (6 * a + k)).toNatClampNeg = 6 * a + k := nI_clamp (by omega)
          rw [if_neg (nI_ge hxp (by omega)), ix6', ck_t k42, c42, (hLA k k1).1]
          simp only [jn_e, nm_e1, nI_1]
          have nx : ∀ B, MyA a A B → (∀ c, EW G p q w.testBit mm c → c k ≠ x) → ∃ m c, m < r + 1 ∧ (∃ x A, x + m = p ∧ c = (nI x, A) ∧ MyA a M A ∧ ∀ c, EW G p q w.testBit mm c → x ≤ c k) ∧ rc (nI (x + 1), B) = rc c := fun B hB hne => ⟨r, _, by omega, ⟨x + 1, B, by omega, rfl, hA.tr hB, fun c hc => by
            have := hlow c hc
            have := hne c hc
            omega⟩, rfl⟩
          have hmk : mm k < 2 ^ 64 := by have := (hL k k1).2; omega
          by_cases cb : (mm k).testBit x = true
          · rw [if_pos ((lbitT hmk (by omega)).mpr cb)]
            obtain ⟨b1, B, nw, n1, n2, n3, n4, n5⟩ := narM (N := N) hN hG hMA (by rw [hA.1]; exact h8) hp hq (by rw [hA.1]; exact h12) (by rw [hA.1]; exact h13) (a := a) (k := k) (x := x) (by omega) k1 hxp hLA
            rw [n1, bd_s]
            dsimp only
            cases hb1 : b1
            · right
              rw [if_pos (show bB false = 0 from rfl)]
              refine nx B n2 (fun c hc e => ?_)
              have := (hc.inn hG hI k1 k3 (by rw [e]; exact n4)).1
              rw [n5.mpr this] at hb1; exact absurd hb1 (by decide)
            · rw [if_neg (show ¬ bB true = 0 by decide), sh1 (by omega), nI_andn]
              have hok := n5.mp hb1
              have hMB := n2.net hMA
              obtain ⟨b2, C, e1, e2, e3⟩ := endM hN hG hp hq dd (a + 1) (adn w (2 ^ k)) B nw (by omega) (by omega) (adn_lt hw) hMB (by rw [n2.1, hA.1]; exact h8) (by rw [n2.1, hA.1]; exact h12) (by rw [n2.1, hA.1]; exact h13) n3 (by rw [adn_drop]; exact hI.st hG n4 hok)
              rw [adn_drop] at e3
              rw [e1, bd_s]
              dsimp only
              have hBC : MyA a A C := n2.tr (e2.up (by omega))
              cases hb2 : b2
              · right
                rw [if_pos (show bB false = 0 from rfl)]
                refine nx C hBC (fun c hc e => ?_)
                have := (hc.inn hG hI k1 k3 (by rw [e]; exact n4)).2
                rw [e3.mpr ⟨c, this⟩] at hb2; exact absurd hb2 (by decide)
              · left
                rw [if_neg (show ¬ bB true = 0 by decide)]
                obtain ⟨c, hc⟩ := e3.mp hb2
                exact ⟨true, C, rfl, hA.tr hBC, fun _ => ⟨_, EW.out hG hxp cb n4 hc⟩, fun _ => rfl⟩
          · right
            rw [if_neg (fun q => cb ((lbitT hmk (by omega)).mp q))]
            refine nx A MyA.rf (fun c hc e => ?_)
            have := (hc.1 k k1 k3).2
            rw [e] at this
            exact cb this
