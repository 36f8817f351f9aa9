/-! next: both sides -/
/-- how a fraction stands to p of q, or to a number just beside it -/
theorem nx_lo {p q n u v : Nat} (hv : 1 ≤ v) (hv2 : v ≤ n) (hp : 1 ≤ p) : (q * (n + 1) * u < (p * (n + 1) - 1) * v ↔ q * u < p * v) ∧ (p * (n + 1) - 1) * v ≠ q * (n + 1) * u := by
  have e1 : q * (n + 1) * u = q * u * (n + 1) := by ac_rfl
  have e2 : (p * (n + 1) - 1) * v = p * v * (n + 1) - v := by rw [Nat.sub_mul, Nat.one_mul]; congr 1; ac_rfl
  rw [e1, e2]
  have h0 : v ≤ p * v * (n + 1) := by
    have : v ≤ p * v := Nat.le_mul_of_pos_left v hp
    exact Nat.le_trans this (Nat.le_mul_of_pos_right _ (by omega))
  rcases Nat.lt_or_ge (q * u) (p * v) with c | c
  · have h1 : (q * u + 1) * (n + 1) ≤ p * v * (n + 1) := Nat.mul_le_mul_right _ c
    rw [Nat.add_mul, Nat.one_mul] at h1
    exact ⟨⟨fun _ => c, fun _ => by omega⟩, by omega⟩
  · have h1 : p * v * (n + 1) ≤ q * u * (n + 1) := Nat.mul_le_mul_right _ c
    exact ⟨⟨fun _ => by omega, fun _ => by omega⟩, by omega⟩
theorem nx_hi {p q n u v : Nat} (hv : 1 ≤ v) (hv2 : v ≤ n) : ((p * (n + 1) + 1) * v < q * (n + 1) * u ↔ p * v < q * u) ∧ (p * (n + 1) + 1) * v ≠ q * (n + 1) * u := by
  have e1 : q * (n + 1) * u = q * u * (n + 1) := by ac_rfl
  have e2 : (p * (n + 1) + 1) * v = p * v * (n + 1) + v := by rw [Nat.add_mul, Nat.one_mul]; congr 1; ac_rfl
  rw [e1, e2]
  rcases Nat.lt_or_ge (p * v) (q * u) with c | c
  · have h1 : (p * v + 1) * (n + 1) ≤ q * u * (n + 1) := Nat.mul_le_mul_right _ c
    rw [Nat.add_mul, Nat.one_mul] at h1
    exact ⟨⟨fun _ => c, fun _ => by omega⟩, by omega⟩
  · have h1 : q * u * (n + 1) ≤ p * v * (n + 1) := Nat.mul_le_mul_right _ c
    exact ⟨⟨fun _ => by omega, fun _ => by omega⟩, by omega⟩
/-- the best above a lower part -/
def nxA (p q : Nat) (up : Bool) (d : Nat) : Nat := if up then p * d / q + 1 else (p * d - 1) / q
theorem nxA_lo {p q u v : Nat} (hq : 0 < q) (hp : 1 ≤ p) (hv : 1 ≤ v) : q * nxA p q false v < p * v ∧ (q * u < p * v → u ≤ nxA p q false v) := by
  show q * ((p * v - 1) / q) < p * v ∧ (q * u < p * v → u ≤ (p * v - 1) / q)
  have h0 : 1 ≤ p * v := Nat.mul_pos hp hv
  have h1 := Nat.div_mul_le_self (p * v - 1) q
  have e : (p * v - 1) / q * q = q * ((p * v - 1) / q) := Nat.mul_comm _ _
  refine ⟨by omega, fun h => (Nat.le_div_iff_mul_le hq).mpr ?_⟩
  have : u * q = q * u := Nat.mul_comm _ _
  omega
theorem nxA_hi {p q u v : Nat} (hq : 0 < q) : p * v < q * nxA p q true v ∧ (p * v < q * u → nxA p q true v ≤ u) := by
  show p * v < q * (p * v / q + 1) ∧ (p * v < q * u → p * v / q + 1 ≤ u)
  refine ⟨Nat.lt_mul_div_succ (p * v) hq, fun h => Nat.succ_le_of_lt (Nat.div_lt_of_lt_mul h)⟩
/-- the best so far -/
def NxB (p q : Nat) (up : Bool) (t U D : Nat) : Prop := 1 ≤ D ∧ D < t ∧ U = nxA p q up D ∧ ∀ v, 1 ≤ v → v < t → (if up then U * v ≤ nxA p q true v * D else nxA p q false v * D ≤ U * v)
theorem nxM {N : Nat} (hN : 20000 ≤ N) {M : Mem} {p q n : Nat} {up : Bool} (hp : p ≤ 9999) (hq : 1 ≤ q) (hq2 : q ≤ 9999) (hn : 1 ≤ n) (hn2 : n ≤ 9999) (h1 : up = false → 1 ≤ p) {a b : Nat} (hab : Nat.gcd a b = 1) (hb : 1 ≤ b) (hb2 : b ≤ n) (hok : if up then p * b < q * a ∧ (∀ u v, 1 ≤ v → v ≤ n → p * v < q * u → a * v ≤ u * b) else q * a < p * b ∧ (∀ u v, 1 ≤ v → v ≤ n → q * u < p * v → u * b ≤ a * v)) (x5 : Int32) : lp (fun (k70 : (Int32 × Int32 × Int32) → Option (Int32)) (a70 : Int32 × Int32 × Int32) => if nI n < a70.2.2 then (if a70.1 = (-1 : Int32) then (some (-1 : Int32)) else (bd (f_X8_common N a70.1 a70.2.1 M) (fun v11 => jn (fun (a212 : Int32) => ck (¬ v11 = 0) (some (a212 / v11))) (fun (k212 : Int32 → Option (Int32)) => if x5 = 0 then (k212 a70.1) else (k212 a70.2.1))))) else (jn (fun (a109 : Int32) => nm (a109.toInt64 * a70.2.1.toInt64) (fun v13 => nm (a70.1.toInt64 * a70.2.2.toInt64) (fun v14 => jn (fun (a177 : Int32 × Int32) => nm (a70.2.2 + (1 : Int32)) (fun v15 => k70 (a177.1, a177.2, v15))) (fun (k177 : (Int32 × Int32) → Option (Int32)) => if a109 = (-1 : Int32) then (k177 (a70.1, a70.2.1)) else (jn (fun (a169 : Unit) => k177 (a109, a70.2.2)) (fun (k169 : Unit → Option (Int32)) => if a70.1 = (-1 : Int32) then (k169 ()) else (if bB up = (1 : Int32) then (if (lg_cmp v13 v14) < 0 then (k169 ()) else (k177 (a70.1, a70.2.1))) else (if 0 < (lg_cmp v13 v14) then (k169 ()) else (k177 (a70.1, a70.2.1)))))))))) (fun (k109 : Int32 → Option (Int32)) => if bB up = (1 : Int32) then (ck (¬ nI q = 0) (k109 (((nI p * a70.2.2) / nI q) + (1 : Int32)))) else (if nI p = 0 then (k109 (-1 : Int32)) else (ck (¬ nI q = 0) (k109 (((nI p * a70.2.2) - (1 : Int32)) / nI q))))))) N ((-1 : Int32), (1 : Int32), (1 : Int32)) = some (if x5 = 0 then nI a else nI b) := by
  have hA : ∀ d, 1 ≤ d → d ≤ n → nxA p q up d ≤ 99980002 := by
    intro d hd1 hd
    have e : p * d ≤ 9999 * 9999 := Nat.mul_le_mul hp (by omega)
    unfold nxA
    have e1 : p * d / q ≤ p * d := Nat.div_le_self _ _
    have e2 : (p * d - 1) / q ≤ p * d - 1 := Nat.div_le_self _ _
    cases up <;> simp <;> omega
  have em1 : (-1 : Int32).toInt = -1 := rfl
  refine lp_S (S := fun o => o = some (if x5 = 0 then nI a else nI b)) (fun k (c : Int32 × Int32 × Int32) => ∃ t, t + k = n + 1 ∧ 1 ≤ t ∧ ((t = 1 ∧ c = (-1, 1, 1)) ∨ ∃ U D, NxB p q up t U D ∧ c = (nI U, nI D, nI t))) (fun k c rc hJ => ?_) N n _ ⟨1, by omega, by omega, Or.inl ⟨rfl, rfl⟩⟩ (by omega)
  obtain ⟨t, hk, ht1, hc⟩ := hJ
  cases k with
  | zero =>
    left
    have e : t = n + 1 := by omega
    subst e
    rcases hc with ⟨q1, -⟩ | ⟨U, D, ⟨d1, d2, d3, d4⟩, rfl⟩
    · omega
    have hU := hA D d1 (by omega)
    rw [← d3] at hU
    dsimp only
    rw [if_pos (nI_lt (by omega) (by omega)), if_neg (fun z => by have := congrArg Int32.toInt z; rw [nI_toInt (by omega)] at this; omega), comM (by omega) (by omega) (by omega), bd_s]
    have hg0 : 0 < Nat.gcd U D := Nat.gcd_pos_of_pos_right _ d1
    have hgD : Nat.gcd U D ≤ D := Nat.le_of_dvd d1 (Nat.gcd_dvd_right _ _)
    simp only [jn_e, ck_t (nI_ne0 hg0 (show Nat.gcd U D < 2 ^ 31 by omega))]
    rw [pk_div (by omega) hg0 (by omega), pk_div (by omega) hg0 (by omega)]
    have hr : red (U, D) = (a, b) := by
      refine red_uq ?_ d1 hb hab
      cases up
      · simp at hok d4
        have l1 := nxA_lo (q := q) (u := a) hq (h1 rfl) hb
        have l2 := nxA_lo (q := q) (u := 0) hq (h1 rfl) d1
        rw [d3]
        have r1 := hok.2 (nxA p q false D) D d1 (by omega) l2.1
        have r2 := d4 b hb (by omega)
        have r3 : a * D ≤ nxA p q false b * D := Nat.mul_le_mul_right D (l1.2 hok.1)
        rw [d3] at r2
        omega
      · simp at hok d4
        have l1 := nxA_hi (p := p) (q := q) (u := a) (v := b) hq
        have l2 := nxA_hi (p := p) (q := q) (u := 0) (v := D) hq
        rw [d3]
        have r1 := hok.2 (nxA p q true D) D d1 (by omega) l2.1
        have r2 := d4 b hb (by omega)
        have r3 : nxA p q true b * D ≤ a * D := Nat.mul_le_mul_right D (l1.2 hok.1)
        rw [d3] at r2
        omega
    have hr1 : U / Nat.gcd U D = a := congrArg Prod.fst hr
    have hr2 : D / Nat.gcd U D = b := congrArg Prod.snd hr
    rw [hr1, hr2]
    by_cases z : x5 = 0
    · rw [if_pos z, if_pos z]
    · rw [if_neg z, if_neg z]
  | succ k =>
    right
    have htn : t ≤ n := by omega
    have e3 : c.2.2 = nI t := by
      rcases hc with ⟨q1, rfl⟩ | ⟨U, D, -, rfl⟩
      · rw [q1]; rfl
      · rfl
    obtain ⟨c1, c2, c3⟩ := c
    dsimp only at e3 ⊢
    subst e3
    have hpt : p * t ≤ 9999 * 9999 := Nat.mul_le_mul hp (by omega)
    have hAt := hA t ht1 htn
    have qn : ¬ nI q = 0 := nI_ne0 (by omega) (by omega)
    rw [if_neg (nI_nlt (by omega) (by omega))]
    have h109 : ∀ K : Int32 → Option Int32, jn K (fun (k109 : Int32 → Option (Int32)) => if bB up = (1 : Int32) then (ck (¬ nI q = 0) (k109 (((nI p * nI t) / nI q) + (1 : Int32)))) else (if nI p = 0 then (k109 (-1 : Int32)) else (ck (¬ nI q = 0) (k109 (((nI p * nI t) - (1 : Int32)) / nI q))))) = K (nI (nxA p q up t)) := by
      intro K
      rw [jn_e, pk_mul, ck_t qn, ck_t qn]
      cases up
      · rw [if_neg (show ¬ bB false = 1 by decide), if_neg (nI_ne0 (by have := h1 rfl; omega) (by omega))]
        have hp1 : 1 ≤ p * t := Nat.mul_pos (h1 rfl) ht1
        have es : nI (p * t) - 1 = nI (p * t - 1) := pk_sub (b := 1) hp1
        rw [es, pk_div (by omega) (by omega) (by omega)]; rfl
      · rw [if_pos (show bB true = 1 from rfl), pk_div (by omega) (by omega) (by omega), nI_1]; rfl
    rw [h109, nm_e1, nm_e1]
    have an : ¬ nI (nxA p q up t) = -1 := fun z => by have := congrArg Int32.toInt z; rw [nI_toInt (by omega)] at this; omega
    simp only [jn_e, nm_e1, nI_1]
    rw [if_neg an]
    rcases hc with ⟨q1, hc⟩ | ⟨U, D, ⟨d1, d2, d3, d4⟩, hc⟩
    · have hc1 : c1 = -1 := congrArg Prod.fst hc
      subst hc1
      rw [if_pos rfl]
      refine ⟨k, _, by omega, ⟨t + 1, by omega, by omega, Or.inr ⟨_, t, ⟨ht1, by omega, rfl, fun v v1 v2 => ?_⟩, rfl⟩⟩, rfl⟩
      have : v = t := by omega
      subst this
      cases up <;> simp
    · have hc1 : c1 = nI U := congrArg Prod.fst hc
      have hc2 : c2 = nI D := congrArg (fun w => w.2.1) hc
      subst hc1
      subst hc2
      have hU := hA D d1 (by omega)
      rw [← d3] at hU
      rw [if_neg (fun z => by have := congrArg Int32.toInt z; rw [nI_toInt (by omega)] at this; omega), nI_l (by omega), nI_l (by omega), nI_l (by omega), nI_l (by omega), lN_mul, lN_mul]
      have m1 : nxA p q up t * D ≤ 99980002 * 9999 := Nat.mul_le_mul hAt (by omega)
      have m2 : U * t ≤ 99980002 * 9999 := Nat.mul_le_mul hU (by omega)
      have keep : (if up then U * t ≤ nxA p q true t * D else nxA p q false t * D ≤ U * t) → ∃ m c, m < k + 1 ∧ (∃ t, t + m = n + 1 ∧ 1 ≤ t ∧ ((t = 1 ∧ c = (-1, 1, 1)) ∨ ∃ U D, NxB p q up t U D ∧ c = (nI U, nI D, nI t))) ∧ rc (nI U, nI D, nI (t + 1)) = rc c := by
        intro hle
        refine ⟨k, _, by omega, ⟨t + 1, by omega, by omega, Or.inr ⟨U, D, ⟨d1, by omega, d3, fun v v1 v2 => ?_⟩, rfl⟩⟩, rfl⟩
        by_cases z : v = t
        · rw [z]; exact hle
        · exact d4 v v1 (by omega)
      have take : (if up then nxA p q true t * D ≤ U * t else U * t ≤ nxA p q false t * D) → ∃ m c, m < k + 1 ∧ (∃ t, t + m = n + 1 ∧ 1 ≤ t ∧ ((t = 1 ∧ c = (-1, 1, 1)) ∨ ∃ U D, NxB p q up t U D ∧ c = (nI U, nI D, nI t))) ∧ rc (nI (nxA p q up t), nI t, nI (t + 1)) = rc c := by
        intro hle
        refine ⟨k, _, by omega, ⟨t + 1, by omega, by omega, Or.inr ⟨_, t, ⟨ht1, by omega, rfl, fun v v1 v2 => ?_⟩, rfl⟩⟩, rfl⟩
        by_cases z : v = t
        · rw [z]; cases up <;> simp
        · have := d4 v v1 (by omega)
          cases up
          · simp at this hle ⊢
            exact fr_le this hle d1
          · simp at this hle ⊢
            exact fr_le hle this d1
      cases up
      · rw [if_neg (show ¬ bB false = 1 by decide)]
        by_cases z : U * t < nxA p q false t * D
        · rw [if_pos (by rw [lg_gt, pk_lLT (by omega) (by omega)]; exact z)]
          exact take (by simp; omega)
        · rw [if_neg (by rw [lg_gt, pk_lLT (by omega) (by omega)]; exact z)]
          exact keep (by simp; omega)
      · rw [if_pos (show bB true = 1 from rfl)]
        by_cases z : nxA p q true t * D < U * t
        · rw [if_pos (by rw [lg_lt, pk_lLT (by omega) (by omega)]; exact z)]
          exact take (by simp; omega)
        · rw [if_neg (by rw [lg_lt, pk_lLT (by omega) (by omega)]; exact z)]
          exact keep (by simp; omega)
theorem s_25 {N : Nat} (hN : 20000 ≤ N) : St_25 N Rel := by
  intro Mx Mm a0 a1 a2 a3 a4 h
  suffices q : RR (fun a b => a = b) (f_X7_next N a0 a1 a2 a3 a4 Mx) (f_X8_next N a0 a1 a2 a3 a4 Mm) by
    obtain ⟨a, b, e1, e2, rfl⟩ := q
    exact ⟨a, e1, e2, h⟩
  unfold f_X7_next f_X8_next
  rw [within_e, inI_e N a0 0 9999 Mm (by decide) (by decide), bd_s, bd_s, ite_bI, ite_bI]
  refine rr_ite Iff.rfl (fun h0 => ?_) (fun _ => rr_ret rfl)
  rw [within_e, inI_e N a1 1 9999 Mm (by decide) (by decide), bd_s, bd_s, ite_bI, ite_bI]
  refine rr_ite Iff.rfl (fun h1 => ?_) (fun _ => rr_ret rfl)
  rw [within_e, inI_e N a2 1 9999 Mm (by decide) (by decide), bd_s, bd_s, ite_bI, ite_bI]
  refine rr_ite Iff.rfl (fun h2 => ?_) (fun _ => rr_ret rfl)
  rw [within_e, inI_e N a3 0 1 Mm (by decide) (by decide), bd_s, bd_s, ite_bI, ite_bI]
  refine rr_ite Iff.rfl (fun h3 => ?_) (fun _ => rr_ret rfl)
  rw [within_e, inI_e N a4 0 1 Mm (by decide) (by decide), bd_s, bd_s, ite_bI, ite_bI]
  refine rr_ite Iff.rfl (fun h4 => ?_) (fun _ => rr_ret rfl)
  have le01 : ∀ x : Int32, 1 ≤ x → 0 ≤ x := fun x hx => by rw [i_le] at *; have e1 : (1 : Int32).toInt = 1 := rfl; have e0 : (0 : Int32).toInt = 0 := rfl; omega
  obtain ⟨p, hp, rfl⟩ := nI_of_le 9999 (by decide) h0
  obtain ⟨q, hq, rfl⟩ := nI_of_le 9999 (by decide) ⟨le01 _ h1.1, h1.2⟩
  obtain ⟨n, hn, rfl⟩ := nI_of_le 9999 (by decide) ⟨le01 _ h2.1, h2.2⟩
  obtain ⟨s, hs, rfl⟩ := nI_of_le 1 (by decide) h3
  have hq1 : 1 ≤ q := (nI_leI (a := 1) (by decide) (by omega)).mp h1.1
  have hn1 : 1 ≤ n := (nI_leI (a := 1) (by decide) (by omega)).mp h2.1
  have hy : q * (n + 1) ≤ 9999 * 10000 := Nat.mul_le_mul hq (by omega)
  have hx : p * (n + 1) ≤ 9999 * 10000 := Nat.mul_le_mul hp (by omega)
  have en : (nI n).toInt64 + 1 = lN (n + 1) := by rw [nI_l (by omega), lN_1]
  have eq : (nI q).toInt64 * lN (n + 1) = lN (q * (n + 1)) := by rw [nI_l (by omega), lN_mul]
  have hyn : n + 1 ≤ q * (n + 1) := Nat.le_mul_of_pos_left _ hq1
  have hxP : p * (n + 1) + 1 ≤ (p + 1) * (q * (n + 1)) := by
    have : (p + 1) * (n + 1) ≤ (p + 1) * (q * (n + 1)) := Nat.mul_le_mul_left _ hyn
    rw [Nat.add_mul, Nat.one_mul] at this
    omega
  simp only [jn_e, nm_e1]
  rw [en, eq]
  rcases (show s = 0 ∨ s = 1 by omega) with rfl | rfl
  · rw [if_pos (show nI 0 = 0 from rfl)]
    by_cases p0 : p = 0
    · subst p0
      rw [if_pos (show nI 0 = 0 from rfl)]
      refine lp_S (S := fun o => RR (fun a b => a = b) (some (-1)) o) (fun k (c : Int32 × Int32 × Int32) => ∃ t, t + k = n + 1 ∧ c = (-1, 1, nI t)) (fun k c rc hJ => ?_) N n _ ⟨1, by omega, rfl⟩ (by omega)
      obtain ⟨t, hk, rfl⟩ := hJ
      dsimp only
      cases k with
      | zero =>
        left
        rw [if_pos (nI_lt (by omega) (by omega)), if_pos rfl]
        exact rr_ret rfl
      | succ k =>
        right
        rw [if_neg (nI_nlt (by omega) (by omega)), if_neg (show ¬ nI 0 = 1 by decide), if_pos (show nI 0 = 0 from rfl), if_pos rfl, nI_1]
        exact ⟨k, _, by omega, ⟨t + 1, by omega, rfl⟩, rfl⟩
    · have hp1 : 1 ≤ p := by omega
      rw [if_neg (nI_ne0 hp1 (by omega)), if_pos (show nI 0 = 0 from rfl)]
      have hpn : 1 * 2 ≤ p * (n + 1) := Nat.mul_le_mul hp1 (by omega)
      have ex : (nI p).toInt64 * lN (n + 1) + (-1 : Int32).toInt64 = lN (p * (n + 1) - 1) := by
        rw [nI_l (by omega), lN_mul]
        have : (-1 : Int32).toInt64 = -1 := by decide
        rw [this]
        have e2 : lN (p * (n + 1)) + -1 = lN (p * (n + 1)) - 1 := Int64.add_neg_eq_sub
        rw [e2]; exact lN_sub (b := 1) (by omega)
      rw [ex]
      have hFI : FI (p * (n + 1) - 1) (q * (n + 1)) n (p + 1) 0 1 1 0 := ⟨rfl, by omega, hn1, by omega, by omega, by omega, by omega, fun u v v1 v2 => (nx_lo v1 v2 hp1).2⟩
      obtain ⟨a, b, c, d, f1, f2, f3, f4, f5⟩ := nbX (N := N) (M := Mx) (by omega) (by omega) (by omega) (by omega) (by omega) hFI (nI 0) a4
      rw [f5, bd_s, if_pos (show nI 0 = 0 from rfl)]
      have hb1 := f1.2.1
      have hbn := f1.2.2.1
      have hr := nxM (N := N) (M := Mm) (up := false) hN hp hq1 hq hn1 hn (fun _ => hp1) (a := a) (b := b) f1.g1.1 hb1 hbn (by
        simp
        exact ⟨(nx_lo hb1 hbn hp1).1.mp f1.2.2.2.2.1, fun u v v1 v2 hu => f1.lo f2 v2 ((nx_lo v1 v2 hp1).1.mpr hu)⟩) a4
      simp only [jn_e, nm_e1] at hr
      have e0 : nI 0 = bB false := rfl
      rw [e0, hr]
      exact rr_ret (by split <;> rfl)
  · rw [if_neg (show ¬ nI 1 = 0 by decide), if_neg (show ¬ nI 1 = 0 by decide)]
    have ex : (nI p).toInt64 * lN (n + 1) + (1 : Int32).toInt64 = lN (p * (n + 1) + 1) := by
      rw [nI_l (by omega), lN_mul]
      have : (1 : Int32).toInt64 = 1 := by decide
      rw [this, lN_1]
    rw [ex]
    have hFI : FI (p * (n + 1) + 1) (q * (n + 1)) n (p + 1) 0 1 1 0 := ⟨rfl, by omega, hn1, by omega, by omega, by omega, hxP, fun u v v1 v2 => (nx_hi v1 v2).2⟩
    obtain ⟨a, b, c, d, f1, f2, f3, f4, f5⟩ := nbX (N := N) (M := Mx) (by omega) (by omega) (by omega) (by omega) (by omega) hFI (nI 1) a4
    rw [f5, bd_s, if_neg (show ¬ nI 1 = 0 by decide)]
    have hbn := f1.2.2.1
    have hdn := f1.2.2.2.1
    have hd1 : 1 ≤ d := by omega
    have hr := nxM (N := N) (M := Mm) (up := true) hN hp hq1 hq hn1 hn (fun z => absurd z (by decide)) (a := c) (b := d) f1.g1.2 hd1 hdn (by
      simp
      exact ⟨(nx_hi hd1 hdn).1.mp f1.2.2.2.2.2.1, fun u v v1 v2 hu => f1.hi f2 v1 v2 ((nx_hi v1 v2).1.mpr hu)⟩) a4
    simp only [jn_e, nm_e1] at hr
    have e0 : nI 1 = bB true := rfl
    rw [e0, hr]
    exact rr_ret (by split <;> rfl)
