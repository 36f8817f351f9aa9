theorem fwX_in {N : Nat} (hN : 2000 ≤ N) {G : Gr} {z : Int32} {ls : Nat → Int64} {M : Mem} {v : Nat → Nat} {p q b c1 : Nat} (hG : GrOk G) (h : NetX M 1 G z ls) (hp : p ≤ 40) (hq : q ≤ 6) (hb : b < gP G) (hv : ∀ i, i ≤ b → (M.2 (c1 + 1) i).toInt = v i ∧ v i < 1000) (k3 : Int32 → Option Int32) : lp (fun (k45 : Int32 → Option (Int32)) (a45 : Int32) => if (M.1 1 1) ≤ a45 then (nm (nI b + (1 : Int32)) (fun v2 => k3 v2)) else (ck (inb a45 10) (jn (fun (a110 : Unit) => nm (a45 + (1 : Int32)) (fun v3 => k45 v3)) (fun (k110 : Unit → Option (Int32)) => if (M.1 5 a45.toNatClampNeg) = nI b then (ck (inb a45 10) (ck (inb (M.1 4 a45.toNatClampNeg) 40) (bd (f_X1_gapOf N 1 a45 M) (fun v4 => bd (f_X7_areApart N (M.2 (c1 + 1) (M.1 4 a45.toNatClampNeg).toNatClampNeg) (M.2 (c1 + 1) b) (nI p) (nI q * v4) M) (fun v6 => if v6 = 0 then (some (nI b)) else (k110 ())))))) else (k110 ()))))) N (0 : Int32) = if aok G v p q b (gN G) = true then k3 (nI (b + 1)) else some (nI b) := by
  have hn := hG.2.1
  have hP := hG.1
  refine lp_S (S := fun o => o = if aok G v p q b (gN G) = true then k3 (nI (b + 1)) else some (nI b)) (fun n a => ∃ i, i + n = gN G ∧ a = nI i ∧ aok G v p q b i = true) (fun n a rc hJ => ?_) N (gN G) _ ⟨0, by omega, rfl, rfl⟩ (by omega)
  obtain ⟨i, h1, rfl, h2⟩ := hJ
  cases n with
  | zero =>
    left
    have : i = gN G := by omega
    subst this
    rw [h.2.1, if_pos (nI_le (a := gN G) (b := gN G) (Nat.le_refl _) (by omega)), nm_e1, if_pos h2, nI_1]
  | succ n =>
    have hi : i < gN G := by omega
    obtain ⟨k1, k2, k3', k4⟩ := h.2.2.2.1 i hi
    have k3' : M.1 4 i = nI (gA G i) := k3'
    have k4 : M.1 5 i = nI (gB G i) := k4
    obtain ⟨o1, o2, o3, o4, o5⟩ := hG.2.2.1 i hi
    have hg := gG_in hG hi
    have hi10 : inb (nI i) 10 := inb_nI (by omega) (by decide)
    have hcl : (nI i).toNatClampNeg = i := nI_clamp (by omega)
    have a40 : inb (nI (gA G i)) 40 := inb_nI (by omega) (by decide)
    have hcla : (nI (gA G i)).toNatClampNeg = gA G i := nI_clamp (by omega)
    have hst : aok G v p q b (i + 1) = (decide (gB G i ≠ b) || apt (v (gA G i)) (v b) p (q * gG G i)) := by
      show (aok G v p q b i && _) = _
      rw [h2, Bool.true_and]
    rw [h.2.1, if_neg (nI_ge hi (by omega))]
    simp only [jn_e, nm_e1, nI_1, ck_t hi10, hcl, k3', k4, ck_t a40, hcla, gapX hG h hi, bd_s, pk_mul]
    by_cases c : gB G i = b
    · have hqg : q * gG G i ≤ 6 * 5 := Nat.mul_le_mul hq hg.2
      rw [if_pos (by rw [c]), apX (hv _ (by omega)).1 (hv b (by omega)).1 (hv _ (by omega)).2 (hv b (by omega)).2 (by omega) (by omega), bd_s]
      rw [decide_eq_false (p := gB G i ≠ b) (fun z => z c), Bool.false_or] at hst
      cases hA : apt (v (gA G i)) (v b) p (q * gG G i) with
      | false =>
        left
        rw [hA] at hst
        rw [if_pos (show bB false = 0 from rfl), aok_ff hst (gN G) (by omega), if_neg (by decide)]
      | true =>
        right
        rw [hA] at hst
        rw [if_neg (show ¬ bB true = 0 by decide)]
        exact ⟨n, nI (i + 1), by omega, ⟨i + 1, by omega, rfl, hst⟩, rfl⟩
    · right
      rw [decide_eq_true (p := gB G i ≠ b) c, Bool.true_or] at hst
      rw [if_neg (nI_ne (by omega) (by omega) c)]
      exact ⟨n, nI (i + 1), by omega, ⟨i + 1, by omega, rfl, hst⟩, rfl⟩
theorem bB_if {α : Type} (F : Bool) (a b : α) : (if bB F = 0 then a else b) = if F = true then b else a := by cases F <;> rfl
/-- what the reference has after a sheet was looked through -/
def PlM (M : Mem) (G : Gr) (v : Nat → Nat) (p q : Nat) : Prop := M.1 0 12 = nI p ∧ M.1 0 13 = nI q ∧ (∀ i, i < gP G → M.1 7 i = nI (v i) ∧ v i < p) ∧ ∀ b, b < gP G → aok G v p q b (gN G) = true
theorem fw_rr {N : Nat} (hN : 2000 ≤ N) {G : Gr} {z : Int32} {ls : Nat → Int64} {Mx Mm : Mem} (hc : Cmp G z ls Mx Mm) {s p q n : Nat} (hs : s ≤ 3) (hp : 1 ≤ p ∧ p ≤ 40) (hq : q ≤ 6) (hn : gP G ≤ n) (hn40 : n ≤ 40) (hS : ∀ i, i < n → Mx.2 (41 + 2 * s) i = Mm.2 22 (40 * s + i)) : RR (fun (r : Int32) (w : Int32 × Mem) => r = w.1 ∧ ScrM Mm w.2 ∧ (r = -1 ∧ PlM w.2 G (fun i => (Mx.2 (sheetC s + 1) i).toInt.toNat) p q ∧ (∀ i, i < gP G → (Mx.2 (sheetC s + 1) i).toInt = ((Mx.2 (sheetC s + 1) i).toInt.toNat : Nat)) ∨ 0 ≤ r)) (f_X7_firstWrong N (sheetC s) (nI p) (nI q) Mx) (f_X8_firstWrong N (nI s) (nI p) (nI q) Mm) := by
  obtain ⟨hG, hX, hM, hw, -⟩ := id hc
  have hP := hG.1
  have hsc : sheetC s + 1 = 41 + 2 * s := by unfold sheetC; omega
  obtain ⟨v, hv⟩ : ∃ v : Nat → Nat, v = fun i => (Mx.2 (sheetC s + 1) i).toInt.toNat := ⟨_, rfl⟩
  rw [← hv]
  have hve : ∀ i, v i = (Mx.2 (sheetC s + 1) i).toInt.toNat := fun i => by rw [hv]
  unfold f_X7_firstWrong f_X8_firstWrong
  rw [nm_e1, nm_e1]
  refine rr_lp (fun k (a : Int32) (a' : Int32 × Mem) => ∃ b, b + k = gP G ∧ a = nI b ∧ a'.1 = nI b ∧ ScrM Mm a'.2 ∧ a'.2.1 0 12 = nI p ∧ a'.2.1 0 13 = nI q ∧ (∀ i, i < b → (Mx.2 (sheetC s + 1) i).toInt = v i ∧ a'.2.1 7 i = nI (v i) ∧ v i < p) ∧ ∀ i, i < b → aok G v p q i (gN G) = true) (fun k a a' rc rc' hJ => ?_) N (gP G) _ _ ⟨0, by omega, rfl, rfl, ⟨fun j hj => ?_, fun a ha => ⟨?_, rfl⟩, fun j _ => ?_, fun j _ => ?_, fun j _ => rfl⟩, by simp [setI_1], by simp [setI_1], fun i hi => by omega, fun i hi => by omega⟩ (by omega)
  · obtain ⟨b, h1, rfl, h2, h3, h4, h5, h6, h7⟩ := hJ
    obtain ⟨b', B⟩ := a'
    dsimp only at h2 h3 h4 h5 h6 ⊢
    subst h2
    have hB : NetM B G z ls := hM.ag (fun j hj => h3.1 j (by omega)) (fun a h1 h2 => h3.2.1 a (by omega))
    have hw' : B.1 0 8 = -1 := by rw [h3.1 8 (by omega)]; exact hw
    cases k with
    | zero =>
      left
      have : b = gP G := by omega
      subst this
      rw [hX.1, hB.1, if_pos (nI_le (a := gP G) (b := gP G) (Nat.le_refl _) (by omega)), if_pos (nI_le (a := gP G) (b := gP G) (Nat.le_refl _) (by omega))]
      exact rr_ret ⟨rfl, h3, Or.inl ⟨rfl, ⟨h4, h5, fun i hi => ⟨(h6 i hi).2.1, (h6 i hi).2.2⟩, h7⟩, fun i hi => by rw [← hve]; exact (h6 i hi).1⟩⟩
    | succ k =>
      have hb : b < gP G := by omega
      have b40 : inb (nI b) 40 := inb_nI (by omega) (by decide)
      have b6 : inb (nI b) 6 := inb_nI (by omega) (by decide)
      have hcl : (nI b).toNatClampNeg = b := nI_clamp (by omega)
      have i160 : inb (nI (40 * s + b)) 160 := inb_nI (by omega) (by decide)
      have hcl2 : (nI (40 * s + b)).toNatClampNeg = 40 * s + b := nI_clamp (by omega)
      have hval : B.2 22 (40 * s + b) = Mx.2 (sheetC s + 1) b := by rw [(h3.2.1 22 (by omega)).2, hsc, hS b (by omega)]
      have z0 : (0 : Int64).toInt = 0 := rfl
      have ep : (nI p).toInt64.toInt = p := by rw [w_toInt, nI_toInt (by omega)]
      have ep1 : (nI p - 1).toInt64.toInt = (p : Int) - 1 := by rw [w_toInt]; exact pk_sub_toInt (b := 1) (by omega) (by decide)
      rw [hX.1, hB.1, if_neg (nI_ge hb (by omega)), if_neg (nI_ge hb (by omega)), ix40 hs (by omega), ck_t i160, ck_t b40]
      simp only [nm_e1, hcl, hcl2, hval, ck_t b6, in_e, bd_s, ite_bI]
      generalize hV : Mx.2 (sheetC s + 1) b = V
      have hvb : v b = V.toInt.toNat := by rw [hve, hV]
      by_cases c1 : V.toInt < 0
      · left
        rw [if_pos (by rw [lg_lt, j_lt, z0]; exact c1), if_neg (fun q => by have := (j_le _ _).mp q.1; omega)]
        exact rr_ret ⟨rfl, h3, Or.inr (nI_pos' (by omega))⟩
      rw [if_neg (by rw [lg_lt, j_lt, z0]; exact c1)]
      by_cases c2 : V.toInt < p
      rotate_left
      · left
        rw [if_neg (by rw [lg_lt, j_lt, ep]; exact c2), if_neg (fun q => by have := (j_le _ _).mp q.2; rw [ep1] at this; omega)]
        exact rr_ret ⟨rfl, h3, Or.inr (nI_pos' (by omega))⟩
      rw [if_pos (by rw [lg_lt, j_lt, ep]; exact c2), if_pos ⟨(j_le _ _).mpr (by rw [z0]; omega), (j_le _ _).mpr (by rw [ep1]; omega)⟩]
      have hV32 : V.toInt32 = nI (v b) := by
        rw [i_eq, nI_toInt (by omega), Int64.toInt_toInt32, Int.bmod_eq_of_le (by omega) (by omega)]
        omega
      rw [hV32]
      have hB' : NetM (setI B 7 b (nI (v b))) G z ls := hB.ag (fun j hj => by rw [setI_o (by omega)]) (fun a h1 h2 => ⟨setI_o (by omega), rfl⟩)
      have hS' : ScrM Mm (setI B 7 b (nI (v b))) := h3.tr ⟨fun j hj => by rw [setI_o (by omega)], fun a ha => ⟨setI_o (by omega), rfl⟩, fun j _ => by rw [setI_o (by omega)], fun j _ => by rw [setI_o (by omega)], fun j _ => rfl⟩
      have h7' : ∀ i, i ≤ b → (setI B 7 b (nI (v b))).1 7 i = nI (v i) ∧ v i < 1000 := by
        intro i hi
        rw [setI_1, if_pos rfl]
        by_cases e : i = b
        · rw [if_pos e, e]; exact ⟨rfl, by omega⟩
        · rw [if_neg e]; have := h6 i (by omega); exact ⟨this.2.1, by omega⟩
      rw [fenM (v := v) (p := p) (q := q) hN hG hB' (by rw [setI_o (by omega)]; exact hw') (by rw [setI_o (by omega)]; exact h4) (by rw [setI_o (by omega)]; exact h5) hp.2 hq hb h7', bd_s, bB_if]
      have hin := fwX_in (v := v) (p := p) (q := q) (b := b) (c1 := sheetC s) hN hG hX hp.2 hq hb (fun i hi => by
        by_cases e : i = b
        · rw [e, hV]; exact ⟨by omega, by omega⟩
        · have := h6 i (by omega); exact ⟨this.1, by omega⟩) rc
      rw [hV] at hin
      simp only [nm_e1] at hin
      rw [hin]
      cases hA : aok G v p q b (gN G) with
      | false =>
        left
        rw [if_neg (by decide), if_neg (by decide)]
        exact rr_ret ⟨rfl, hS', Or.inr (nI_pos' (by omega))⟩
      | true =>
        right
        rw [if_pos rfl, if_pos rfl, nI_1]
        refine ⟨k, nI (b + 1), (nI (b + 1), setI B 7 b (nI (v b))), by omega, ⟨b + 1, by omega, rfl, rfl, hS', by rw [setI_o (by omega)]; exact h4, by rw [setI_o (by omega)]; exact h5, fun i hi => ?_, fun i hi => ?_⟩, rfl, rfl⟩
        · by_cases e : i = b
          · rw [e, hV]
            exact ⟨by omega, (h7' b (by omega)).1, by omega⟩
          · have := h6 i (by omega)
            exact ⟨this.1, (h7' i (by omega)).1, this.2.2⟩
        · by_cases e : i = b
          · rw [e]; exact hA
          · exact h7 i (by omega)
  · show (setI (setI Mm 0 12 _) 0 13 _).1 0 j = _
    rw [setI_1, if_pos rfl, if_neg (by omega), setI_1, if_pos rfl, if_neg (by omega)]
  · show (setI (setI Mm 0 12 _) 0 13 _).1 a = _
    rw [setI_o (by omega), setI_o (by omega)]
  · show (setI (setI Mm 0 12 _) 0 13 _).1 23 j = _
    rw [setI_o (by omega), setI_o (by omega)]
  · show (setI (setI Mm 0 12 _) 0 13 _).1 24 j = _
    rw [setI_o (by omega), setI_o (by omega)]
/-- what is wrong with a told colouring, on both sides -/
theorem ref_rr {N : Nat} {G : Gr} {z : Int32} {ls : Nat → Int64} {Mx Mm : Mem} (hc : Cmp G z ls Mx Mm) (a0 a1 a2 : Int32) : ∃ r, f_X7_refusalOf N a0 a1 a2 Mx = some r ∧ f_X8_wrongPlaces N a0 a1 a2 Mm = some r ∧ (r < 0 ∨ r = 0 ∧ ∃ s p q n, s ≤ 3 ∧ (1 ≤ p ∧ p ≤ 40) ∧ (1 ≤ q ∧ q ≤ 6) ∧ gP G ≤ n ∧ n ≤ 40 ∧ a0 = nI s ∧ a1 = nI p ∧ a2 = nI q ∧ ∀ i, i < n → Mx.2 (41 + 2 * s) i = Mm.2 22 (40 * s + i)) := by
  obtain ⟨hG, hX, hM, hw, -⟩ := id hc
  have hP := hG.1
  unfold f_X7_refusalOf f_X8_wrongPlaces
  rw [isShX, isShM, bd_s, bd_s, ite_bI, ite_bI]
  by_cases v0 : 0 ≤ a0 ∧ a0 ≤ 3
  rotate_left
  · rw [if_neg v0, if_neg v0]; exact ⟨_, rfl, rfl, Or.inl (by decide)⟩
  rw [if_pos v0, if_pos v0, within_e, inI_e N a1 1 40 Mm (by decide) (by decide), bd_s, bd_s, ite_bI, ite_bI]
  by_cases v1 : 1 ≤ a1 ∧ a1 ≤ 40
  rotate_left
  · rw [if_neg v1, if_neg v1]; exact ⟨_, rfl, rfl, Or.inl (by decide)⟩
  rw [if_pos v1, if_pos v1, within_e, inI_e N a2 1 6 Mm (by decide) (by decide), bd_s, bd_s, ite_bI, ite_bI]
  by_cases v2 : 1 ≤ a2 ∧ a2 ≤ 6
  rotate_left
  · rw [if_neg v2, if_neg v2]; exact ⟨_, rfl, rfl, Or.inl (by decide)⟩
  rw [if_pos v2, if_pos v2]
  obtain ⟨s, hs, rfl⟩ := nI_of_le 3 (by decide) v0
  obtain ⟨p, p1, p2, rfl⟩ := nI_of_1 40 (by decide) v1
  obtain ⟨q, q1, q2, rfl⟩ := nI_of_1 6 (by decide) v2
  have s4 : inb (nI s) 4 := inb_nI (by omega) (by decide)
  have cs : (nI s).toNatClampNeg = s := nI_clamp (by omega)
  obtain ⟨e1, e2⟩ := hc.2.2.2.2.2.2.2.1 s (by omega)
  have e1 : Mx.1 (sheetC s) 0 = Mm.1 20 s := e1
  simp only [ck_t s4, cs, missX, bd_s, ite_bI, e1]
  rcases e2 with e2 | ⟨e2, n, n1, n2, n3, n4⟩
  · rw [if_pos e2, if_pos e2]; exact ⟨_, rfl, rfl, Or.inl (by decide)⟩
  have n2 : Mx.1 (sheetC s) 1 = nI n := n2
  rw [if_neg (not_m1 e2), if_neg (not_m1 e2), n2, n3, hX.1, hM.1]
  by_cases c : gP G ≤ n
  · rw [if_pos (nI_le c (by omega))]
    exact ⟨_, rfl, rfl, Or.inr ⟨rfl, s, p, q, n, hs, ⟨p1, p2⟩, ⟨q1, q2⟩, c, n1, rfl, rfl, rfl, n4⟩⟩
  · rw [if_neg (nI_ge (by omega) (by omega))]; exact ⟨_, rfl, rfl, Or.inl (by decide)⟩
theorem i_neg {r : Int32} (h : r < 0) : ¬ 0 ≤ r ∧ ¬ r = 0 := ⟨by rw [i_lt] at h; rw [i_le]; omega, fun q => by rw [q] at h; exact absurd h (by decide)⟩
theorem s_21 {N : Nat} (hN : 2000 ≤ N) : St_21 N Rel := by
  intro Mx Mm a0 a1 a2 h
  obtain ⟨G, z, ls, hc⟩ := id h
  unfold f_X7_judge f_X8_judge
  obtain ⟨r, r1, r2, r3⟩ := ref_rr (N := N) hc a0 a1 a2
  rw [r1, r2, bd_s, bd_s]
  rcases r3 with r3 | ⟨rfl, s, p, q, n, hs, hp, hq, hn, hn40, rfl, rfl, rfl, hS⟩
  · rw [if_neg (i_neg r3).1, if_neg (i_neg r3).2]; exact ⟨_, _, rfl, rfl, h⟩
  · have s4 : inb (nI s) 4 := inb_nI (by omega) (by decide)
    have cs : (nI s).toNatClampNeg = s := nI_clamp (by omega)
    rw [if_pos (by decide), if_pos rfl, ck_t s4, cs]
    obtain ⟨u, ⟨w, M'⟩, e1, e2, e3, e4, -⟩ := fw_rr (N := N) hN hc hs hp hq.2 hn hn40 hS
    rw [e1, e2, bd_s, bd_s]
    have e3 : u = w := e3
    subst e3
    exact ⟨u, M', rfl, rfl, Rel.scr hc ScrX.rf e4 hc.2.2.2.2.1⟩
