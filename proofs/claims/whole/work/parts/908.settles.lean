theorem stX {N : Nat} (hN : 2000 ≤ N) {G : Gr} {z : Int32} {ls : Nat → Int64} {M : Mem} (hG : GrOk G) (h : NetX M 1 G z ls) {p q t : Nat} {F : Nat → Nat} (hp : p ≤ 40) (hq : q ≤ 6) (hPr : Prep M G p q F) (hF : ∀ i, i < gP G → F i < 2 ^ p) (ht : t < 2 ^ gN G) : SetR G p q t F M (f_X2_settles N 1 (nI t) M) := by
  have hn := hG.2.1
  have hP := hG.1
  have ht10 := lt1024 ht hn
  unfold f_X2_settles
  refine lp_S (S := SetR G p q t F M) (fun k (a : Int32 × Mem) => ∃ i A v, i + k = gP G ∧ a = (nI i, A) ∧ Ag [28] M A ∧ TV A G p q t F v i) (fun k a rc hJ => ?_) N (gP G) _ ⟨0, M, fun _ => 0, by omega, rfl, Ag.rf, fun j hj => absurd hj (Nat.not_lt_zero _)⟩ (by omega)
  obtain ⟨i, A, v, hk, rfl, hA, hv⟩ := hJ
  have hXA : NetX A 1 G z ls := h.ag (fun a h1 h2 => hA a (by simp; omega))
  have hPA := prepAg hPr hA
  dsimp only
  rw [hXA.1]
  cases k with
  | succ k =>
    have hi : i < gP G := by omega
    rw [if_neg (nI_ge hi (by omega))]
    rcases liX (N := N) (M := A) (p := p) (i := i) (s := 0) (F := F i) hPA.1 hp (hF i hi) (hPA.2.2.2.1 i hi) (by omega) (by omega) with ⟨x, x1, x2, x3, x4, x5⟩ | ⟨y1, w, y2, y3⟩
    · right
      have x5' : f_X2_lifts N (nI i) 0 A = some (1, setI A 28 i (nI x)) := x5
      rw [x5', bd_s]
      dsimp only
      rw [if_neg (show ¬ (1 : Int32) = 0 by decide), nm_e1, nI_1]
      refine ⟨k, _, by omega, ⟨i + 1, _, upv v i x, by omega, rfl, hA.tr (Ag.setI (by simp)), fun j hj => ?_⟩, rfl⟩
      by_cases e : j = i
      · subst e
        rw [upv_s]
        exact ⟨by simp [setI_1], x1, x3, fun c c1 c2 => x4 _ (Nat.zero_le _) (c1.1 j hi).2⟩
      · rw [upv_o e]
        obtain ⟨h1, h2⟩ := hv j (by omega)
        exact ⟨by rw [setI_1, if_pos rfl, if_neg e]; exact h1, h2⟩
    · left
      have y2' : f_X2_lifts N (nI i) 0 A = some (0, w) := y2
      rw [y2', bd_s]
      dsimp only
      rw [if_pos rfl]
      refine SetR.no (hA.tr y3) (fun c c1 c2 => ?_)
      have h1 : (F i).testBit (c i) = true := (c1.1 i hi).2
      rw [y1 (c i) (Nat.zero_le _)] at h1; exact absurd h1 (by decide)
  | zero =>
    left
    have ei : i = gP G := by omega
    subst ei
    rw [if_pos (nI_le (a := gP G) (b := gP G) (Nat.le_refl _) (by omega))]
    refine lp_S (S := SetR G p q t F M) (fun n (a : Int32 × Int32 × Mem) => ∃ A v k mv, a = (mv, nI k, A) ∧ Ag [28] M A ∧ TV A G p q t F v (gP G) ∧ ((mv = 0 ∧ n = 0 ∧ Lie G p q t v) ∨ (mv = 1 ∧ n + k = 400 ∧ k ≤ sm v (gP G)))) (fun n a rc hJ => ?_) N 400 _ ⟨A, v, 0, 1, rfl, hA, hv, Or.inr ⟨rfl, by omega, Nat.zero_le _⟩⟩ (by omega)
    clear hXA hPA hv hA
    obtain ⟨A, v, k, mv, rfl, hA, hv, hst⟩ := hJ
    dsimp only
    rw [jn_e]
    rcases hst with ⟨rfl, -, hL⟩ | ⟨rfl, hnk, hks⟩
    · left
      rw [if_pos rfl, if_pos rfl]
      exact ⟨true, A, rfl, hA, fun _ => ⟨v, fun i hi => (hv i hi).1, ⟨fun i hi => ⟨(hv i hi).2.1, (hv i hi).2.2.1⟩, fun l hl => hL.apt hl⟩, hL, fun c c1 c2 i hi => (hv i hi).2.2.2 c c1 c2⟩, fun q => absurd q (by decide)⟩
    have hsb : sm v (gP G) ≤ 40 * 6 := Nat.le_trans (sm_bd (gP G) (fun i hi => (hv i hi).2.1)) (Nat.mul_le_mul hp hP)
    rw [if_neg (show ¬ (1 : Int32) = 0 by decide), if_neg (show ¬ (241 : Int32) ≤ nI k from nI_ge (b := 241) (by omega) (by decide))]
    refine lp_S (S := fun o => SetR G p q t F M o ∨ ∃ m c, m < n ∧ (∃ A v k mv, c = (mv, nI k, A) ∧ Ag [28] M A ∧ TV A G p q t F v (gP G) ∧ ((mv = 0 ∧ m = 0 ∧ Lie G p q t v) ∨ (mv = 1 ∧ m + k = 400 ∧ k ≤ sm v (gP G)))) ∧ o = rc c) (fun r (a : Int32 × Int32 × Mem) => ∃ l B u mv, l + r = gN G ∧ a = (mv, nI l, B) ∧ Ag [28] M B ∧ TV B G p q t F u (gP G) ∧ ((mv = 0 ∧ sm v (gP G) ≤ sm u (gP G) ∧ ∀ j, j < l → u (frL G t j) + q * gG G j ≤ u (toL G t j) ∧ u (toL G t j) + q * gG G j ≤ u (frL G t j) + p) ∨ (mv = 1 ∧ sm v (gP G) < sm u (gP G)))) (fun r a rc' hJ => ?_) N (gN G) _ ⟨0, A, v, 0, by omega, rfl, hA, hv, Or.inl ⟨rfl, Nat.le_refl _, fun j hj => absurd hj (Nat.not_lt_zero _)⟩⟩ (by omega)
    obtain ⟨l, B, u, mv, hr, rfl, hB, hu, hst⟩ := hJ
    have hXB : NetX B 1 G z ls := h.ag (fun a h1 h2 => hB a (by simp; omega))
    dsimp only
    rw [hXB.2.1]
    cases r with
    | zero =>
      left
      have el : l = gN G := by omega
      subst el
      rw [if_pos (nI_le (a := gN G) (b := gN G) (Nat.le_refl _) (by omega)), nm_e1, nI_1]
      right
      rcases hst with ⟨rfl, -, hL⟩ | ⟨rfl, hs⟩
      · exact ⟨0, _, by omega, ⟨B, u, k + 1, 0, rfl, hB, hu, Or.inl ⟨rfl, rfl, hL⟩⟩, rfl⟩
      · exact ⟨n - 1, _, by omega, ⟨B, u, k + 1, 1, rfl, hB, hu, Or.inr ⟨rfl, by omega, by omega⟩⟩, rfl⟩
    | succ r =>
      have hl : l < gN G := by omega
      have l10 : inb (nI l) 10 := inb_nI (by omega) (by decide)
      have cl : (nI l).toNatClampNeg = l := nI_clamp (by omega)
      obtain ⟨-, -, k3, k4⟩ := hXB.2.2.2.1 l hl
      obtain ⟨-, -, -, o4, o5⟩ := hG.2.2.1 l hl
      have hg := gG_in hG hl
      have hqg : q * gG G l ≤ 6 * 5 := Nat.mul_le_mul hq hg.2
      rw [if_neg (nI_ge hl (by omega))]
      have h73 : ∀ K : Int32 → Option (Int32 × Mem), jn K (fun (k73 : Int32 → Option (Int32 × Mem)) => if ((nI t >>> (nI l &&& 31)) &&& (1 : Int32)) = (1 : Int32) then (k73 (1 : Int32)) else (k73 (0 : Int32))) = K (bB (t.testBit l)) := fun K => by
        rw [jn_e]
        cases c : t.testBit l
        · rw [if_neg (fun e => by rw [(bitT (by omega) (by omega)).mp e] at c; exact absurd c (by decide))]; rfl
        · rw [if_pos ((bitT (by omega) (by omega)).mpr c)]; rfl
      have h97 : ∀ K : Int32 → Option (Int32 × Mem), jn K (fun (k97 : Int32 → Option (Int32 × Mem)) => if bB (t.testBit l) = 0 then (ck (inb (nI l) 10) (k97 (B.1 (1 + 3) (nI l).toNatClampNeg))) else (ck (inb (nI l) 10) (k97 (B.1 (1 + 4) (nI l).toNatClampNeg)))) = K (nI (frL G t l)) := fun K => by
        rw [jn_e, ck_t l10, ck_t l10, cl, k3, k4]
        unfold frL
        cases t.testBit l <;> rfl
      have h121 : ∀ K : Int32 → Option (Int32 × Mem), jn K (fun (k121 : Int32 → Option (Int32 × Mem)) => if bB (t.testBit l) = 0 then (ck (inb (nI l) 10) (k121 (B.1 (1 + 4) (nI l).toNatClampNeg))) else (ck (inb (nI l) 10) (k121 (B.1 (1 + 3) (nI l).toNatClampNeg)))) = K (nI (toL G t l)) := fun K => by
        rw [jn_e, ck_t l10, ck_t l10, cl, k3, k4]
        unfold toL
        cases t.testBit l <;> rfl
      rw [h73, h97, h121]
      have hfr : frL G t l < gP G := by unfold frL; split <;> omega
      have hto : toL G t l < gP G := by unfold toL; split <;> omega
      have hne : frL G t l ≠ toL G t l := by unfold frL toL; split <;> omega
      have f6 : inb (nI (frL G t l)) 6 := inb_nI (by omega) (by decide)
      have t6 : inb (nI (toL G t l)) 6 := inb_nI (by omega) (by decide)
      have cf : (nI (frL G t l)).toNatClampNeg = frL G t l := nI_clamp (by omega)
      have ct : (nI (toL G t l)).toNatClampNeg = toL G t l := nI_clamp (by omega)
      have hLc : ∀ c, Lie G p q t c → c (frL G t l) + q * gG G l ≤ c (toL G t l) ∧ c (toL G t l) + q * gG G l ≤ c (frL G t l) + p := fun c hc => hc l hl
      have hcon : ∀ w : Nat → Nat, (∀ j, j < l → w (frL G t j) + q * gG G j ≤ w (toL G t j) ∧ w (toL G t j) + q * gG G j ≤ w (frL G t j) + p) → w (frL G t l) + q * gG G l ≤ w (toL G t l) → w (toL G t l) + q * gG G l ≤ w (frL G t l) + p → ∀ j, j < l + 1 → w (frL G t j) + q * gG G j ≤ w (toL G t j) ∧ w (toL G t j) + q * gG G j ≤ w (frL G t j) + p := fun w hw w1 w2 j hj => by
        by_cases e : j = l
        · rw [e]; exact ⟨w1, w2⟩
        · exact hw j (by omega)
      generalize frL G t l = fr at *
      generalize toL G t l = to at *
      have val : ∀ C w, Ag [28] M C → TV C G p q t F w (gP G) → C.1 28 fr = nI (w fr) ∧ C.1 28 to = nI (w to) ∧ C.1 26 1 = nI p ∧ C.1 29 l = nI (q * gG G l) ∧ w fr < 40 ∧ w to < 40 := fun C w hC hw => by
        have := prepAg hPr hC
        have h1 := hw fr hfr
        have h2 := hw to hto
        exact ⟨h1.1, h2.1, this.1, this.2.2.1 l hl, by omega, by omega⟩
      obtain ⟨b1, b2, b3, b4, b5, b6⟩ := val B u hB hu
      simp only [ck_t f6, ck_t t6, ck_t l10, cf, ct, cl, nm_e1, nI_1, b1, b2, b4, nI_add, jn_e]
      have second : ∀ mv C w, Ag [28] M C → TV C G p q t F w (gP G) → w fr + q * gG G l ≤ w to → ((mv = 0 ∧ sm v (gP G) ≤ sm w (gP G) ∧ ∀ j, j < l → w (frL G t j) + q * gG G j ≤ w (toL G t j) ∧ w (toL G t j) + q * gG G j ≤ w (frL G t j) + p) ∨ (mv = 1 ∧ sm v (gP G) < sm w (gP G))) → ∀ o, o = (if (C.1 28 to - (C.1 26 1 - C.1 29 l)) ≤ C.1 28 fr then rc' (mv, nI (l + 1), C) else bd (f_X2_lifts N (nI fr) (C.1 28 to - (C.1 26 1 - C.1 29 l)) C) (fun w7 => if w7.1 = 0 then some (0, w7.2) else rc' (1, nI (l + 1), w7.2))) → (SetR G p q t F M o ∨ ∃ m c, m < n ∧ (∃ A v k mv, c = (mv, nI k, A) ∧ Ag [28] M A ∧ TV A G p q t F v (gP G) ∧ ((mv = 0 ∧ m = 0 ∧ Lie G p q t v) ∨ (mv = 1 ∧ m + k = 400 ∧ k ≤ sm v (gP G)))) ∧ o = rc c) ∨ ∃ m c, m < r + 1 ∧ (∃ l B u mv, l + m = gN G ∧ c = (mv, nI l, B) ∧ Ag [28] M B ∧ TV B G p q t F u (gP G) ∧ ((mv = 0 ∧ sm v (gP G) ≤ sm u (gP G) ∧ ∀ j, j < l → u (frL G t j) + q * gG G j ≤ u (toL G t j) ∧ u (toL G t j) + q * gG G j ≤ u (frL G t j) + p) ∨ (mv = 1 ∧ sm v (gP G) < sm u (gP G)))) ∧ o = rc' c := by
        intro mv C w hC hw hcd hst o ho
        obtain ⟨c1, c2, c3, c4, c5, c6⟩ := val C w hC hw
        rw [c1, c2, c3, c4] at ho
        obtain ⟨e1, e2⟩ := back_e (a := w to) (b := w fr) (p := p) (r := q * gG G l) (by omega) (by omega) (by omega) (by omega)
        by_cases d : w to + q * gG G l ≤ w fr + p
        · rw [if_pos (e1.mpr d)] at ho
          right
          refine ⟨r, _, by omega, ⟨l + 1, C, w, mv, by omega, rfl, hC, hw, ?_⟩, ho⟩
          rcases hst with ⟨m0, hle, hj⟩ | hj
          · exact Or.inl ⟨m0, hle, hcon w hj hcd d⟩
          · exact Or.inr hj
        · rw [if_neg (fun q => d (e1.mp q)), e2 (by omega)] at ho
          rcases half (N := N) hG hp hF hPr hC hw (i := fr) (s := w to + q * gG G l - p) hfr (by omega) (by omega) (fun c k1 k2 => by
            have := (hLc c k2).2
            have := (hw to hto).2.2.2 c k1 k2
            omega) with ⟨x, x1, x2⟩ | ⟨D, y, y1, y2, y3, y4, y5, y6⟩
          · rw [x1, bd_s] at ho
            dsimp only at ho
            rw [if_pos rfl] at ho
            rw [ho]; exact Or.inl (Or.inl x2)
          · rw [y1, bd_s] at ho
            dsimp only at ho
            rw [if_neg (show ¬ (1 : Int32) = 0 by decide)] at ho
            right
            refine ⟨r, _, by omega, ⟨l + 1, D, y, 1, by omega, rfl, y2, y3, Or.inr ⟨rfl, ?_⟩⟩, ho⟩
            rcases hst with ⟨m0, hle, hj⟩ | ⟨-, hj⟩
            · omega
            · omega
      by_cases d : u fr + q * gG G l ≤ u to
      · rw [if_pos (nI_le d (by omega))]
        exact second mv B u hB hu d hst _ (by rw [b1, b2, b4])
      · rw [if_neg (nI_ge (by omega) (by omega))]
        rcases half (N := N) hG hp hF hPr hB hu (i := to) (s := u fr + q * gG G l) hto (by omega) (by omega) (fun c k1 k2 => by
          have := (hLc c k2).1
          have := (hu fr hfr).2.2.2 c k1 k2
          omega) with ⟨x, x1, x2⟩ | ⟨D, y, y1, y2, y3, y4, y5, y6⟩
        · rw [x1, bd_s]
          dsimp only
          rw [if_pos rfl]
          exact Or.inl (Or.inl x2)
        · rw [y1, bd_s]
          dsimp only
          rw [if_neg (show ¬ (1 : Int32) = 0 by decide)]
          refine second 1 D y y2 y3 (by rw [y5 fr hne]; exact y6) (Or.inr ⟨rfl, ?_⟩) _ rfl
          rcases hst with ⟨m0, hle, hj⟩ | ⟨-, hj⟩ <;> omega
