/-! the class finds the first colouring -/
theorem lessT {N : Nat} (hN : 2000 ≤ N) {M : Mem} {P : Nat} (hP : P ≤ 6) {v w : Nat → Nat} (hv : ∀ i, i < P → M.1 28 i = nI (v i) ∧ v i < 1000) (hw : ∀ i, i < P → M.1 27 i = nI (w i) ∧ w i < 1000) : ∃ b, f_X2_isTrialLess N (nI P) M = some (bB b) ∧ (b = true → Lx P v w) ∧ (b = false → Lx P w v) := by
  unfold f_X2_isTrialLess
  refine lp_S (S := fun o => ∃ b, o = some (bB b) ∧ (b = true → Lx P v w) ∧ (b = false → Lx P w v)) (fun k (a : Int32) => ∃ i, i + k = P ∧ a = nI i ∧ ∀ j, j < i → v j = w j) (fun k a rc hJ => ?_) N P _ ⟨0, by omega, rfl, fun j hj => absurd hj (Nat.not_lt_zero _)⟩ (by omega)
  obtain ⟨i, hk, rfl, he⟩ := hJ
  cases k with
  | zero =>
    left
    have e : i = P := by omega
    subst e
    rw [if_pos (nI_le (Nat.le_refl _) (by omega))]
    exact ⟨false, rfl, fun q => absurd q (by decide), fun _ => Or.inl (fun j hj => (he j hj).symm)⟩
  | succ k =>
    have hi : i < P := by omega
    have i6 : inb (nI i) 6 := inb_nI (by omega) (by decide)
    have ci : (nI i).toNatClampNeg = i := nI_clamp (by omega)
    obtain ⟨v1, v2⟩ := hv i hi
    obtain ⟨w1, w2⟩ := hw i hi
    rw [if_neg (nI_ge hi (by omega))]
    simp only [ck_t i6, ci, nm_e1, nI_1, v1, w1]
    by_cases c : v i = w i
    · right
      rw [if_pos (by rw [c])]
      refine ⟨k, _, by omega, ⟨i + 1, by omega, rfl, fun j hj => ?_⟩, rfl⟩
      by_cases e : j = i
      · rw [e]; exact c
      · exact he j (by omega)
    · left
      rw [if_neg (nI_ne (by omega) (by omega) c)]
      by_cases d : w i ≤ v i
      · rw [if_pos (nI_le d (by omega))]
        exact ⟨false, rfl, fun q => absurd q (by decide), fun _ => Or.inr ⟨i, hi, fun j hj => (he j hj).symm, by omega⟩⟩
      · rw [if_neg (nI_ge (by omega) (by omega))]
        exact ⟨true, rfl, fun _ => Or.inr ⟨i, hi, he, by omega⟩, fun q => absurd q (by decide)⟩
def FinR (G : Gr) (p q : Nat) (F : Nat → Nat) (x : Int32) (M : Mem) (o : Option (Int32 × Mem)) : Prop := ∃ b M', o = some (bB b, M') ∧ Ag [27, 28] M M' ∧ (b = true → ∃ c, Col G p q (fun i x => (F i).testBit x) c ∧ (x ≠ 0 → Fst G p q (fun i x => (F i).testBit x) c ∧ ∀ i, i < gP G → M'.1 27 i = nI (c i))) ∧ (b = false → ∀ c, ¬ Col G p q (fun i x => (F i).testBit x) c)
theorem fiX {N : Nat} (hN : 2000 ≤ N) {G : Gr} {z : Int32} {ls : Nat → Int64} {M : Mem} (hG : GrOk G) (h : NetX M 1 G z ls) (hRg : RgX M G) (hRt : RtX M G) {p q : Nat} {F : Nat → Nat} (hp : p ≤ 40) (hq1 : 1 ≤ q) (hq : q ≤ 6) (hPr : Prep M G p q F) (hF : ∀ i, i < gP G → F i < 2 ^ p) (x : Int32) : FinR G p q F x M (f_X2_finds N 1 x M) := by
  have hn := hG.2.1
  have hP := hG.1
  have h2n := two_le hn
  unfold f_X2_finds
  rw [nm_e1, h.2.1, sh1 (show gN G < 31 by omega)]
  refine lp_S (S := FinR G p q F x M) (fun k (a : Int32 × Int32 × Mem) => ∃ t A f, t + k = 2 ^ gN G ∧ a = (bB f, nI t, A) ∧ Ag [27, 28] M A ∧ (f = false → ∀ c, Col G p q (fun i x => (F i).testBit x) c → ∀ s, s < t → ¬ Lie G p q s c) ∧ (f = true → ∃ w, (∀ i, i < gP G → A.1 27 i = nI (w i)) ∧ Col G p q (fun i x => (F i).testBit x) w ∧ ∀ c, Col G p q (fun i x => (F i).testBit x) c → ∀ s, s < t → Lie G p q s c → Lx (gP G) w c)) (fun k a rc hJ => ?_) N (2 ^ gN G) _ ⟨0, M, false, by omega, rfl, Ag.rf, fun _ c _ s hs => absurd hs (Nat.not_lt_zero _), fun q => absurd q (by decide)⟩ (by omega)
  obtain ⟨t, A, f, hk, rfl, hA, hf0, hf1⟩ := hJ
  dsimp only
  cases k with
  | zero =>
    left
    have e : t = 2 ^ gN G := by omega
    subst e
    rw [if_pos (nI_le (Nat.le_refl _) (by omega)), ck_t (by cases f <;> decide)]
    refine ⟨f, A, rfl, hA, fun hf => ?_, fun hf c hc => ?_⟩
    · obtain ⟨w, w1, w2, w3⟩ := hf1 hf
      refine ⟨w, w2, fun _ => ⟨⟨w2, fun d hd => ?_⟩, w1⟩⟩
      exact w3 d hd _ hd.lie.2 hd.lie.1
    · exact hf0 hf c hc _ hc.lie.2 hc.lie.1
  | succ k =>
    have ht : t < 2 ^ gN G := by omega
    have hXA : NetX A 1 G z ls := h.ag (fun a h1 h2 => hA a (by simp; omega))
    have hPA : Prep A G p q F := by
      unfold Prep at *
      rw [(hA 26 (by simp)).1, (hA 29 (by simp)).1, (hA 30 (by simp)).2]
      exact hPr
    have hRgA : RgX A G := hRg.ag (by rw [(hA 19 (by simp)).1]) (by rw [(hA 19 (by simp)).1]) (fun a h1 h2 => (hA a (by simp; omega)).1)
    have hRtA : RtX A G := by
      unfold RtX at *
      rw [(hA 19 (by simp)).1, (hA 25 (by simp)).1]
      exact hRt
    rw [if_neg (nI_ge ht (by omega)), hPA.1, hPA.2.1, alwX hG hRgA hRtA ht (by omega) (by omega), bd_s]
    simp only [jn_e, nm_e1, nI_1]
    have keep : ∀ B, Ag [27, 28] A B → B.1 27 = A.1 27 → (∀ c, Col G p q (fun i x => (F i).testBit x) c → Lie G p q t c → f = true ∧ ∀ w, (∀ i, i < gP G → A.1 27 i = nI (w i)) → (∀ i, i < gP G → w i < 1000) → Lx (gP G) w c) → ∃ m c, m < k + 1 ∧ (∃ t A f, t + m = 2 ^ gN G ∧ c = (bB f, nI t, A) ∧ Ag [27, 28] M A ∧ (f = false → ∀ c, Col G p q (fun i x => (F i).testBit x) c → ∀ s, s < t → ¬ Lie G p q s c) ∧ (f = true → ∃ w, (∀ i, i < gP G → A.1 27 i = nI (w i)) ∧ Col G p q (fun i x => (F i).testBit x) w ∧ ∀ c, Col G p q (fun i x => (F i).testBit x) c → ∀ s, s < t → Lie G p q s c → Lx (gP G) w c)) ∧ rc (bB f, nI (t + 1), B) = rc c := by
      intro B hB h27 hno
      refine ⟨k, _, by omega, ⟨t + 1, B, f, by omega, rfl, hA.tr hB, fun hf c hc s hs hl => ?_, fun hf => ?_⟩, rfl⟩
      · by_cases e : s = t
        · rw [e] at hl
          have := (hno c hc hl).1
          rw [hf] at this; exact absurd this (by decide)
        · exact hf0 hf c hc s (by omega) hl
      · obtain ⟨w, w1, w2, w3⟩ := hf1 hf
        refine ⟨w, fun i hi => by rw [h27]; exact w1 i hi, w2, fun c hc s hs hl => ?_⟩
        by_cases e : s = t
        · rw [e] at hl
          exact (hno c hc hl).2 w w1 (fun i hi => by have := (w2.1 i hi).1; omega)
        · exact w3 c hc s (by omega) hl
    rw [ite_bB]
    cases ho : okT G t p q
    · right
      rw [if_neg (by decide)]
      exact keep A Ag.rf rfl (fun c hc hl => by rw [lie_ok hG hq1 hl] at ho; exact absurd ho (by decide))
    rw [if_pos rfl]
    obtain ⟨b, B, s1, s2, s3, s4⟩ := stX (N := N) hN hG hXA hp hq hPA hF ht
    have s2' : Ag [27, 28] A B := s2.up (fun a ha => by simp at ha ⊢; omega)
    have s27 : B.1 27 = A.1 27 := (s2 27 (by simp)).1
    rw [s1, bd_s]
    dsimp only
    rw [ite_bB]
    cases hb : b
    · right
      rw [if_neg (by decide)]
      exact keep B s2' s27 (fun c hc hl => absurd hl (s4 hb c hc))
    rw [if_pos rfl]
    obtain ⟨v, v1, v2, v3, v4⟩ := s3 hb
    have hXB : NetX B 1 G z ls := hXA.ag (fun a h1 h2 => s2 a (by simp; omega))
    have z0 : (0 : Int32).toNatClampNeg = 0 := by decide
    have z6 : (6 : Int32).toNatClampNeg = 6 := by decide
    obtain ⟨C, hC⟩ : ∃ C, C = putI B 27 (va_cpy (B.1 28) (B.1 27) (0 : Int32).toNatClampNeg (0 : Int32).toNatClampNeg (6 : Int32).toNatClampNeg) := ⟨_, rfl⟩
    have hCA : Ag [27, 28] A C := s2'.tr (by rw [hC]; exact Ag.putI (by simp))
    have hC27 : ∀ i, i < gP G → C.1 27 i = nI (v i) := fun i hi => by
      rw [hC, putI_1, if_pos rfl, z0, z6, pk_cpy_in (by omega) (by omega), Nat.zero_add, Nat.sub_zero]
      exact v1 i hi
    have take : (∀ w, (∀ i, i < gP G → A.1 27 i = nI (w i)) → (∀ i, i < gP G → w i < 1000) → f = true → Lx (gP G) v w) → ∀ o, o = (if x = 0 then some (1, C) else rc (1, nI (t + 1), C)) → FinR G p q F x M o ∨ ∃ m c, m < k + 1 ∧ (∃ t A f, t + m = 2 ^ gN G ∧ c = (bB f, nI t, A) ∧ Ag [27, 28] M A ∧ (f = false → ∀ c, Col G p q (fun i x => (F i).testBit x) c → ∀ s, s < t → ¬ Lie G p q s c) ∧ (f = true → ∃ w, (∀ i, i < gP G → A.1 27 i = nI (w i)) ∧ Col G p q (fun i x => (F i).testBit x) w ∧ ∀ c, Col G p q (fun i x => (F i).testBit x) c → ∀ s, s < t → Lie G p q s c → Lx (gP G) w c)) ∧ o = rc c := by
      intro hlt o ho
      by_cases cx : x = 0
      · rw [if_pos cx] at ho
        rw [ho]
        exact Or.inl ⟨true, C, rfl, hA.tr hCA, fun _ => ⟨v, v2, fun q => absurd cx q⟩, fun q => absurd q (by decide)⟩
      · rw [if_neg cx] at ho
        right
        refine ⟨k, _, by omega, ⟨t + 1, C, true, by omega, rfl, hA.tr hCA, fun q => absurd q (by decide), fun _ => ⟨v, hC27, v2, fun c hc s hs hl => ?_⟩⟩, ho⟩
        by_cases e : s = t
        · rw [e] at hl
          exact Lx.of_le _ (v4 c hc hl)
        · cases hf : f
          · exact absurd hl (hf0 hf c hc s (by omega))
          · obtain ⟨w, w1, w2, w3⟩ := hf1 hf
            exact (hlt w w1 (fun i hi => by have := (w2.1 i hi).1; omega) hf).tr (w3 c hc s (by omega) hl)
    rw [← hC, ck_t (by decide)]
    rw [ite_bB]
    cases hf : f
    · rw [if_neg (by decide)]
      exact take (fun w _ _ q => by rw [hf] at q; exact absurd q (by decide)) _ rfl
    · rw [if_pos rfl]
      obtain ⟨w, w1, w2, w3⟩ := hf1 hf
      obtain ⟨b', q1, q2, q3⟩ := lessT (N := N) (M := B) (P := gP G) hN hP (v := v) (w := w) (fun i hi => ⟨v1 i hi, by have := (v2.1 i hi).1; omega⟩) (fun i hi => ⟨by rw [s27]; exact w1 i hi, by have := (w2.1 i hi).1; omega⟩)
      rw [hXB.1, q1, bd_s, ite_bB]
      have wu : ∀ w' : Nat → Nat, (∀ i, i < gP G → A.1 27 i = nI (w' i)) → (∀ i, i < gP G → w' i < 1000) → ∀ i, i < gP G → w' i = w i := fun w' h1 h2 i hi => by
        have e := (h1 i hi).symm.trans (w1 i hi)
        exact (nI_eq (by have := h2 i hi; omega) (by have := (w2.1 i hi).1; omega)).mp e
      cases hb' : b'
      · right
        rw [if_neg (by decide)]
        have := keep B s2' s27 (fun c hc hl => ⟨hf, fun w' h1 h2 => by
          have hl' : Lx (gP G) w' w := Or.inl (wu w' h1 h2)
          exact hl'.tr ((q3 hb').tr (Lx.of_le _ (v4 c hc hl)))⟩)
        rw [hf] at this
        exact this
      · rw [if_pos rfl]
        exact take (fun w' h1 h2 _ => (q2 hb').tr (Or.inl (fun i hi => (wu w' h1 h2 i hi).symm))) _ rfl
