/-! places are laid on a sheet -/
def lyM (M : Mem) (c o i : Nat) (f : Nat → Int64) : Mem := (M.1, fun a b => if a = c ∧ o ≤ b ∧ b < o + i then f (b - o) else M.2 a b)
theorem lyM_0 (M : Mem) (c o : Nat) (f : Nat → Int64) : lyM M c o 0 f = M := by
  refine Prod.ext rfl ?_
  funext a b
  show (if _ then _ else _) = _
  rw [if_neg (by omega)]
theorem lyM_s (M : Mem) (c o i : Nat) (f : Nat → Int64) : setJ (lyM M c o i f) c (o + i) (f i) = lyM M c o (i + 1) f := by
  refine Prod.ext rfl ?_
  funext a b
  rw [setJ_2]
  show (if _ then (if _ then _ else (if _ then _ else _)) else (if _ then _ else _)) = (if _ then _ else _)
  by_cases ha : a = c
  · rw [if_pos ha]
    by_cases hb : b = o + i
    · rw [if_pos hb, if_pos (by omega), hb, show o + i - o = i by omega]
    · rw [if_neg hb]
      by_cases hq : o ≤ b ∧ b < o + i
      · rw [if_pos ⟨ha, hq⟩, if_pos (by omega)]
      · rw [if_neg (fun q => hq q.2), if_neg (by omega)]
  · rw [if_neg ha, if_neg (fun q => ha q.1), if_neg (fun q => ha q.1)]
/-- a place, by so much -/
def plJ (v : Nat → Nat) (by' : Nat) (k : Nat) : Int64 := (nI (v k / by')).toInt64
theorem laysM {N : Nat} (hN : 2000 ≤ N) {M : Mem} {v : Nat → Nat} {t d P : Nat} (ht : t ≤ 3) (hd : 1 ≤ d ∧ d ≤ 6) (hP : P ≤ 6) (h0 : M.1 0 0 = nI P) (hv : ∀ i, i < P → M.1 7 i = nI (v i) ∧ v i < 1000) : f_X8_lays N (nI t) (nI d) M = some (lyM (setI (setI M 20 t 0) 21 t (nI P)) 22 (40 * t) 40 (fun k => if k < P then plJ v d k else 0)) := by
  have t4 : inb (nI t) 4 := inb_nI (by omega) (by decide)
  have ct : (nI t).toNatClampNeg = t := nI_clamp (by omega)
  unfold f_X8_lays
  rw [ck_t t4, nm_e1, ck_t t4, nm_e1, ct, show (setI M 20 t 0).1 0 0 = nI P by rw [setI_o (by omega)]; exact h0]
  generalize hM2 : setI (setI M 20 t 0) 21 t (nI P) = M2
  have h0' : M2.1 0 0 = nI P := by rw [← hM2, setI_o (by omega), setI_o (by omega)]; exact h0
  have h7' : M2.1 7 = M.1 7 := by rw [← hM2, setI_o (by omega), setI_o (by omega)]
  refine lp_cnt 40 (fun i a => a = (nI i, lyM M2 22 (40 * t) i (fun k => if k < P then plJ v d k else 0))) (fun i a rc hi hI => Or.inr ?_) (fun a rc hI => ?_) N 0 _ (by omega) (by rw [lyM_0]; rfl) (by omega)
  · subst hI
    refine ⟨(nI (i + 1), lyM M2 22 (40 * t) (i + 1) (fun k => if k < P then plJ v d k else 0)), rfl, ?_⟩
    have i160 : inb (nI (40 * t + i)) 160 := inb_nI (by omega) (by decide)
    have hcl2 : (nI (40 * t + i)).toNatClampNeg = 40 * t + i := nI_clamp (by omega)
    have e0 : (lyM M2 22 (40 * t) i (fun k => if k < P then plJ v d k else 0)).1 = M2.1 := rfl
    have fin : setJ (lyM M2 22 (40 * t) i (fun k => if k < P then plJ v d k else 0)) 22 (40 * t + i) (if i < P then plJ v d i else 0) = _ := lyM_s M2 22 (40 * t) i (fun k => if k < P then plJ v d k else 0)
    dsimp only
    rw [if_neg (show ¬ (40 : Int32) ≤ nI i from nI_ge (b := 40) hi (by decide)), e0, h0', ix40 ht hi]
    simp only [jn_e, ck_t i160, nm_e1, hcl2, nI_1]
    by_cases c : P ≤ i
    · rw [if_neg (show ¬ i < P by omega)] at fin
      rw [if_pos (nI_le c (by omega)), fin]
    · have hi6 : inb (nI i) 6 := inb_nI (by omega) (by decide)
      have hcl : (nI i).toNatClampNeg = i := nI_clamp (by omega)
      have dn : ¬ nI d = 0 := nI_ne (b := 0) (by omega) (by decide) (by omega)
      have hvi := hv i (by omega)
      rw [if_pos (show i < P by omega)] at fin
      rw [if_neg (nI_ge (by omega) (by omega)), ck_t hi6, ck_t dn, hcl, h7', hvi.1, pk_div (by omega) (by omega) (by omega)]
      show rc (_, setJ _ 22 (40 * t + i) (plJ v d i)) = _
      rw [fin]
  · subst hI
    dsimp only
    rw [if_pos (by decide)]
/-- a sheet of places, on both sides -/
theorem She_lay {G : Gr} {z : Int32} {ls : Nat → Int64} {Mx Mm Mx' : Mem} (hc : Cmp G z ls Mx Mm) {t : Nat} (ht : t ≤ 3) {f : Nat → Int64} (hx : ∀ a, a ≠ 40 + 2 * t → a ≠ 41 + 2 * t → Mx'.1 a = Mx.1 a ∧ Mx'.2 a = Mx.2 a) (h1 : Mx'.2 (40 + 2 * t) = Mx.2 (40 + 2 * t)) (h2 : Mx'.1 (41 + 2 * t) = Mx.1 (41 + 2 * t)) (h3 : Mx'.1 (40 + 2 * t) 0 = 0) (h4 : Mx'.1 (40 + 2 * t) 1 = nI (gP G)) (h5 : ∀ i, i < gP G → Mx'.2 (41 + 2 * t) i = f i) : Cmp G z ls Mx' (lyM (setI (setI Mm 20 t 0) 21 t (nI (gP G))) 22 (40 * t) 40 f) := by
  have hP := hc.1.1
  have w2 : ∀ a b, (lyM (setI (setI Mm 20 t 0) 21 t (nI (gP G))) 22 (40 * t) 40 f).2 a b = if a = 22 ∧ 40 * t ≤ b ∧ b < 40 * t + 40 then f (b - 40 * t) else Mm.2 a b := fun a b => rfl
  have w1 : (lyM (setI (setI Mm 20 t 0) 21 t (nI (gP G))) 22 (40 * t) 40 f).1 = (setI (setI Mm 20 t 0) 21 t (nI (gP G))).1 := rfl
  refine Cmp_she hc (fun a ha => hx a (by omega) (by omega)) (fun a ha => ⟨by rw [w1, setI_o (by omega), setI_o (by omega)], by funext b; rw [w2, if_neg (by omega)]⟩) (fun q hq => ?_)
  by_cases e : q = t
  · subst e
    refine ⟨?_, Or.inr ⟨?_, gP G, by omega, h4, ?_, fun i hi => ?_⟩⟩
    · rw [h3, w1]; simp [setI_1]
    · rw [w1]; left; simp [setI_1]
    · rw [w1]; simp [setI_1]
    · rw [h5 i hi, w2, if_pos (by omega), show 40 * q + i - 40 * q = i by omega]
  · refine (hc.2.2.2.2.2.2.2.1 q hq).ag ⟨(hx _ (by omega) (by omega)).1, (hx _ (by omega) (by omega)).2⟩ (by rw [w1]; simp [setI_1, e]) (by rw [w1]; simp [setI_1, e]) (fun i hi => by rw [w2, if_neg (by omega)])
theorem up_d : ∀ p, p < 41 → ∀ q, q < 7 → 1 ≤ q → 1 ≤ p → (p + q - 1) / q = p / q + (if p % q = 0 then 0 else 1) := by decide +kernel
theorem s_24 {N : Nat} (hN : 2000 ≤ N) : St_24 N Rel := by
  intro Mx Mm a0 a1 a2 a3 h
  apply rr_st
  obtain ⟨G, z, ls, hc⟩ := id h
  unfold f_X7_rounds f_X8_rounds
  rw [isShX, isShM, bd_s, bd_s, ite_bI, ite_bI]
  refine rr_ite Iff.rfl (fun hv => ?_) (fun _ => rr_ret ⟨rfl, h⟩)
  obtain ⟨t, ht, rfl⟩ := nI_of_le 3 (by decide) hv
  obtain ⟨r, Mm', r1, r2, hc', r3⟩ := col_rr hN hc a0 a1 a2
  rw [r1, r2, bd_s, bd_s]
  dsimp only
  rcases r3 with r3 | ⟨rfl, s, p, q, n, v, hs, hp, hq, hn, hn40, rfl, rfl, rfl, hPl, hv⟩
  · rw [if_neg (i_neg r3).1, if_neg (i_neg r3).2]; exact rr_ret ⟨rfl, G, z, ls, hc'⟩
  obtain ⟨hG, hX, hM, hw, -⟩ := id hc'
  have hP := hG.1
  have s4 : inb (nI s) 4 := inb_nI (by omega) (by decide)
  have cs : (nI s).toNatClampNeg = s := nI_clamp (by omega)
  have t4 : inb (nI t) 4 := inb_nI (by omega) (by decide)
  have ct : (nI t).toNatClampNeg = t := nI_clamp (by omega)
  have eq : (nI q).toInt64.toInt = q := by rw [w_toInt, nI_toInt (by omega)]
  have qn : ¬ (nI q).toInt64 = 0 := fun z => by have := (j0 _).mp z; rw [eq] at this; omega
  have qn' : ¬ nI q = 0 := nI_ne (b := 0) (by omega) (by decide) (by omega)
  rw [if_pos (by decide), if_pos rfl, laysM (v := v) hN ht hq hP hM.1 (fun i hi => ⟨(hPl.2.2.1 i hi).1, by have := (hPl.2.2.1 i hi).2; omega⟩), bd_s, ck_t qn', ck_t qn', ck_t t4, ct, pk_rem (by omega) (by omega) (by omega), pk_div (by omega) (by omega) (by omega)]
  have hX2 : lp (fun (k40 : (Int32 × Mem) → Option (Int32 × Mem)) (a40 : Int32 × Mem) => if (a40.2.1 1 0) ≤ a40.1 then (nm (setI a40.2 (sheetC t) 0 (0 : Int32)) (fun M6 => nm (setI M6 (sheetC t) 1 (M6.1 1 0)) (fun M7 => ck (¬ nI q = 0) (some ((((nI p + nI q) - (1 : Int32)) / nI q), M7))))) else (ck (inb (nI s) 4) (ck (inb a40.1 40) (ck (¬ (nI q).toInt64 = 0) (ck (inb a40.1 40) (nm (setJ a40.2 ((sheetC t) + 1) a40.1.toNatClampNeg ((a40.2.2 ((sheetC (nI s).toNatClampNeg) + 1) a40.1.toNatClampNeg) / (nI q).toInt64)) (fun M9 => nm (a40.1 + (1 : Int32)) (fun v10 => k40 (v10, M9))))))))) N ((0 : Int32), Mx) = some (nI ((p + q - 1) / q), setI (setI (lyM Mx (sheetC t + 1) 0 (gP G) (plJ v q)) (sheetC t) 0 0) (sheetC t) 1 (nI (gP G))) := by
    refine lp_cnt (gP G) (fun i a => a = (nI i, lyM Mx (sheetC t + 1) 0 i (plJ v q))) (fun i a rc hi hI => Or.inr ?_) (fun a rc hI => ?_) N 0 _ (by omega) (by rw [lyM_0]; rfl) (by omega)
    · subst hI
      refine ⟨(nI (i + 1), lyM Mx (sheetC t + 1) 0 (i + 1) (plJ v q)), rfl, ?_⟩
      have e0 : (lyM Mx (sheetC t + 1) 0 i (plJ v q)).1 1 0 = nI (gP G) := hX.1
      have i40 : inb (nI i) 40 := inb_nI (by omega) (by decide)
      have hcl : (nI i).toNatClampNeg = i := nI_clamp (by omega)
      have e1 : (lyM Mx (sheetC t + 1) 0 i (plJ v q)).2 (sheetC s + 1) i = Mx.2 (sheetC s + 1) i := by unfold lyM; dsimp only; rw [if_neg (by omega)]
      have hvi := (hPl.2.2.1 i hi).2
      have e2 : Mx.2 (sheetC s + 1) i / (nI q).toInt64 = plJ v q i := by
        unfold plJ
        have : v i / q ≤ v i := Nat.div_le_self _ _
        rw [j_eq, jt_div, hv i hi, eq, ← Int.ofNat_tdiv, w_toInt, nI_toInt (by omega)]
        generalize v i / q = w at *
        exact bm64 (by omega) (by omega)
      have e3 := lyM_s Mx (sheetC t + 1) 0 i (plJ v q)
      rw [Nat.zero_add] at e3
      dsimp only
      rw [e0, if_neg (nI_ge hi (by omega)), ck_t s4, ck_t i40, ck_t qn, ck_t i40, nm_e1, nm_e1, hcl, cs, nI_1, e1, e2, e3]
    · subst hI
      have e0 : (lyM Mx (sheetC t + 1) 0 (gP G) (plJ v q)).1 1 0 = nI (gP G) := hX.1
      have e1 : (setI (lyM Mx (sheetC t + 1) 0 (gP G) (plJ v q)) (sheetC t) 0 0).1 1 0 = nI (gP G) := by rw [setI_o (by unfold sheetC; omega)]; exact e0
      dsimp only
      rw [e0, if_pos (nI_le (a := gP G) (b := gP G) (Nat.le_refl _) (by omega)), nm_e1, nm_e1, e1, ck_t qn', nI_add, show nI (p + q) - 1 = nI (p + q - 1) from pk_sub (b := 1) (by omega), pk_div (by omega) (by omega) (by omega)]
  rw [hX2, up_d p (by omega) q (by omega) hq.1 hp.1]
  have sc0 : sheetC t = 40 + 2 * t := rfl
  have sc1 : sheetC t + 1 = 41 + 2 * t := by unfold sheetC; omega
  have hfin : Rel (setI (setI (lyM Mx (sheetC t + 1) 0 (gP G) (plJ v q)) (sheetC t) 0 0) (sheetC t) 1 (nI (gP G))) (lyM (setI (setI Mm' 20 t 0) 21 t (nI (gP G))) 22 (40 * t) 40 (fun k => if k < gP G then plJ v q k else 0)) := by
    refine ⟨G, z, ls, She_lay hc' ht (fun a h1 h2 => ⟨?_, ?_⟩) ?_ ?_ ?_ ?_ (fun i hi => ?_)⟩
    · rw [setI_o (by omega), setI_o (by omega)]; rfl
    · rw [setI_2, setI_2]; funext b; show (if _ then _ else _) = _; rw [if_neg (by omega)]
    · rw [setI_2, setI_2]; funext b; show (if _ then _ else _) = _; rw [if_neg (by omega)]
    · rw [setI_o (by omega), setI_o (by omega)]; rfl
    · rw [sc0]; simp [setI_1]
    · rw [sc0]; simp [setI_1]
    · rw [setI_2, setI_2]
      show (if _ then _ else _) = (if _ then _ else _)
      rw [if_pos (by omega), if_pos hi, Nat.sub_zero]
  have hm : p % q < q := Nat.mod_lt _ (by omega)
  by_cases c : p % q = 0
  · rw [if_pos (show nI (p % q) = 0 by rw [c]; rfl), if_pos c]
    exact rr_ret ⟨by show nI (p / q + 0) = nI (p / q) + nI 0; rw [nI_add], hfin⟩
  · rw [if_neg (show ¬ nI (p % q) = 0 from nI_ne (b := 0) (by omega) (by decide) c), if_neg c]
    exact rr_ret ⟨by show nI (p / q + 1) = nI (p / q) + 1; rw [nI_1], hfin⟩
