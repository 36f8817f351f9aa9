/-! the reference goes on to a token -/
def GsA (M A : Mem) : Prop := (∀ a, a ≠ 0 → A.1 a = M.1 a) ∧ (∀ j, ¬ (32 ≤ j ∧ j ≤ 35) → A.1 0 j = M.1 0 j) ∧ A.2 = M.2
theorem GsA.rf {M : Mem} : GsA M M := ⟨fun _ _ => rfl, fun _ _ => rfl, rfl⟩
theorem GsA.tr {M A B : Mem} (h : GsA M A) (h2 : GsA A B) : GsA M B := ⟨fun a ha => (h2.1 a ha).trans (h.1 a ha), fun j hj => (h2.2.1 j hj).trans (h.2.1 j hj), h2.2.2.trans h.2.2⟩
theorem GsA.set {M : Mem} {j : Nat} {v : Int32} (hj : 32 ≤ j ∧ j ≤ 35) : GsA M (setI M 0 j v) := ⟨fun a ha => setI_o ha, fun i hi => by rw [setI_1, if_pos rfl, if_neg (fun e => hi (by rw [e]; exact hj))], rfl⟩
theorem GsA.tp {M A : Mem} {tp : Nat → Int32} {T : Nat} (h : GsA M A) (hT : TpM M tp T) : TpM A tp T := ⟨hT.1, by rw [h.2.1 31 (by omega)]; exact hT.2.1, fun j hj => by rw [h.1 18 (by omega)]; exact hT.2.2 j hj⟩
theorem isAtM {N : Nat} {M : Mem} {tp : Nat → Int32} {T t : Nat} (h : TpM M tp T) (h33 : M.1 0 33 = nI t) (ht : t ≤ T) (lo hi : Int32) : f_X8_isAt N lo hi M = some (bI (t < T ∧ lo ≤ tp t ∧ tp t ≤ hi)) := by
  obtain ⟨h1, h2, h3⟩ := h
  unfold f_X8_isAt
  simp only [jn_e]
  rw [h33, h2]
  by_cases c : t < T
  · rw [if_neg (nI_ge c (by omega)), ck_t (inb_nI (by omega) (by decide)), nI_clamp (by omega), h3 t c, inI_e N (tp t) lo hi M (w_toInt _) (w_toInt _), bd_s, ite_bI]
    unfold bI
    by_cases d : lo ≤ tp t ∧ tp t ≤ hi
    · rw [if_pos d, if_pos ⟨c, d⟩]
    · rw [if_neg d, if_neg (fun q => d q.2)]
  · rw [if_pos (nI_le (by omega) (by omega))]
    unfold bI
    rw [if_neg (fun q => c q.1)]
def RqM (A : Mem) (tp : Nat → Int32) (T pos : Nat) : Prop := A.1 0 34 = nI (tqK tp T pos) ∧ A.1 0 32 = nI (tqS tp T pos) ∧ (tqK tp T pos ≠ 4 → A.1 0 33 = nI (tqE tp T pos)) ∧ (tqK tp T pos = 2 → A.1 0 35 = nI (tqR tp T pos))
theorem goM {N : Nat} (hN : 2000 ≤ N) {M : Mem} {tp : Nat → Int32} {T pos : Nat} (h : TpM M tp T) (hp : pos ≤ T) (h33 : M.1 0 33 = nI pos) : ∃ A, f_X8_goes N M = some A ∧ GsA M A ∧ RqM A tp T pos := by
  have hT := h.1
  obtain ⟨b1, b2, -, -, b5, -⟩ := tq_bd (tp := tp) hp
  obtain ⟨w1, w2, w3, -⟩ := pasO (tp := tp) (lo := 97) (hi := 122) b2
  have w1 : tqS tp T pos ≤ tqW tp T pos := w1
  have w2 : tqW tp T pos ≤ T := w2
  obtain ⟨n1, n2, n3, n4⟩ := pasO (tp := tp) (lo := 48) (hi := 57) b2
  have n1 : tqS tp T pos ≤ tqN tp T pos := n1
  have n2 : tqN tp T pos ≤ T := n2
  have n4 : ∀ j, tqS tp T pos ≤ j → j < tqN tp T pos → 48 ≤ tp j ∧ tp j ≤ 57 := n4
  have lW : tqS tp T pos < tqW tp T pos ↔ tqS tp T pos < T ∧ 97 ≤ tp (tqS tp T pos) ∧ tp (tqS tp T pos) ≤ 122 := pas_lt b2
  have lN' : tqS tp T pos < tqN tp T pos ↔ tqS tp T pos < T ∧ 48 ≤ tp (tqS tp T pos) ∧ tp (tqS tp T pos) ≤ 57 := pas_lt b2
  unfold f_X8_goes
  refine lp_S (S := fun o => ∃ A, o = some A ∧ GsA M A ∧ RqM A tp T pos) (fun n (B : Mem) => ∃ t, t + n = T ∧ GsA M B ∧ B.1 0 33 = nI t ∧ pas tp T 32 32 t = tqS tp T pos) (fun n B rc hJ => ?_) N (T - pos) _ ⟨pos, by omega, GsA.rf, h33, rfl⟩ (by omega)
  obtain ⟨t, ht, hB, hB33, hpe⟩ := hJ
  have hTB := hB.tp h
  rw [isAtM hTB hB33 (by omega) 32 32, bd_s, ite_bI]
  have pe := pas_e tp T 32 32 t
  by_cases c : t < T ∧ 32 ≤ tp t ∧ tp t ≤ 32
  · right
    rw [if_pos c, nm_e1, hB33, nI_1]
    rw [if_pos c] at pe
    exact ⟨n - 1, _, by omega, ⟨t + 1, by omega, hB.tr (GsA.set (by omega)), by simp [setI_1], by rw [← pe]; exact hpe⟩, rfl⟩
  left
  rw [if_neg c] at pe ⊢
  have ets : t = tqS tp T pos := by rw [← hpe]; exact pe.symm
  subst ets
  clear c pe hpe
  rw [nm_e1, nm_e1, hB33]
  have hC : GsA M (setI (setI B 0 32 (nI (tqS tp T pos))) 0 35 0) := hB.tr ((GsA.set (by omega)).tr (GsA.set (by omega)))
  have c33 : (setI (setI B 0 32 (nI (tqS tp T pos))) 0 35 0).1 0 33 = nI (tqS tp T pos) := by simp [setI_1, hB33]
  have c32 : (setI (setI B 0 32 (nI (tqS tp T pos))) 0 35 0).1 0 32 = nI (tqS tp T pos) := by simp [setI_1]
  have c35 : (setI (setI B 0 32 (nI (tqS tp T pos))) 0 35 0).1 0 35 = nI 0 := by simp [setI_1]; rfl
  generalize setI (setI B 0 32 (nI (tqS tp T pos))) 0 35 0 = C at hC c33 c32 c35 ⊢
  have hTC := hC.tp h
  have hsel : ∀ K : Int32 → Option Mem, jn K (fun (k99 : Int32 → Option (Mem)) => if (C.1 0 33) = (C.1 0 31) then (k99 (0 : Int32)) else (bd (f_X8_isAt N (97 : Int32) (122 : Int32) C) (fun v14 => if v14 = 0 then (bd (f_X8_isAt N (48 : Int32) (57 : Int32) C) (fun v16 => if v16 = 0 then (bd (f_X8_isAt N (59 : Int32) (59 : Int32) C) (fun v18 => if v18 = 0 then (k99 (4 : Int32)) else (k99 (3 : Int32)))) else (k99 (2 : Int32)))) else (k99 (1 : Int32))))) = K (nI (tqK tp T pos)) := fun K => by
    rw [jn_e, isAtM hTC c33 b2 97 122, isAtM hTC c33 b2 48 57, isAtM hTC c33 b2 59 59, bd_s, bd_s, bd_s, ite_bI, ite_bI, ite_bI, c33, hTC.2.1]
    unfold tqK
    by_cases c0 : T ≤ tqS tp T pos
    · rw [if_pos (show nI (tqS tp T pos) = nI T by rw [show tqS tp T pos = T by omega]), if_pos c0]; rfl
    · rw [if_neg (nI_ne (by omega) (by omega) (by omega)), if_neg c0]
      by_cases c1 : tqS tp T pos < tqW tp T pos
      · rw [if_pos (lW.mp c1), if_pos c1]; rfl
      · rw [if_neg (fun q => c1 (lW.mpr q)), if_neg c1]
        by_cases c2 : tqS tp T pos < tqN tp T pos
        · rw [if_pos (lN'.mp c2), if_pos c2]; rfl
        · rw [if_neg (fun q => c2 (lN'.mpr q)), if_neg c2]
          by_cases c3 : tp (tqS tp T pos) = 59
          · rw [if_pos ⟨by omega, by rw [c3]; decide, by rw [c3]; decide⟩, if_pos c3]; rfl
          · rw [if_neg (fun q => c3 (by
              have h1 := (i_le _ _).mp q.2.1
              have h2 := (i_le _ _).mp q.2.2
              rw [i_eq]; omega)), if_neg c3]; rfl
  rw [hsel, nm_e1]
  have hD : GsA M (setI C 0 34 (nI (tqK tp T pos))) := hC.tr (GsA.set (by omega))
  have d34 : (setI C 0 34 (nI (tqK tp T pos))).1 0 34 = nI (tqK tp T pos) := by simp [setI_1]
  have d33 : (setI C 0 34 (nI (tqK tp T pos))).1 0 33 = nI (tqS tp T pos) := by simp [setI_1, c33]
  have d32 : (setI C 0 34 (nI (tqK tp T pos))).1 0 32 = nI (tqS tp T pos) := by simp [setI_1, c32]
  have d35 : (setI C 0 34 (nI (tqK tp T pos))).1 0 35 = nI 0 := by simp [setI_1, c35]
  generalize setI C 0 34 (nI (tqK tp T pos)) = D at hD d34 d33 d32 d35 ⊢
  -- the word
  refine lp_S (S := fun o => ∃ A, o = some A ∧ GsA M A ∧ RqM A tp T pos) (fun n (E : Mem) => ∃ t, t + n = T ∧ GsA M E ∧ E.1 0 34 = nI (tqK tp T pos) ∧ E.1 0 33 = nI t ∧ E.1 0 32 = nI (tqS tp T pos) ∧ E.1 0 35 = nI 0 ∧ (tqK tp T pos = 1 → pas tp T 97 122 t = tqW tp T pos) ∧ (tqK tp T pos ≠ 1 → t = tqS tp T pos)) (fun n E rc hJ => ?_) N (T - tqS tp T pos) _ ⟨tqS tp T pos, by omega, hD, d34, d33, d32, d35, fun _ => rfl, fun _ => rfl⟩ (by omega)
  obtain ⟨t, ht, hE, e34, e33, e32, e35, eW, eO⟩ := hJ
  have hTE := hE.tp h
  rw [jn_e, e34, isAtM hTE e33 (by omega) 97 122, bd_s, ite_bI, nm_e1]
  have after : (tqK tp T pos = 1 → t = tqW tp T pos) → ∃ A, (lp (fun (k134 : Mem → Option (Mem)) (a134 : Mem) => jn (fun (a207 : Unit) => jn (fun (a225 : Int32) => nm (setI a134 0 33 ((a134.1 0 33) + a225)) (fun M6 => some M6)) (fun (k225 : Int32 → Option (Mem)) => if (a134.1 0 34) = (3 : Int32) then (k225 (1 : Int32)) else (k225 (0 : Int32)))) (fun (k207 : Unit → Option (Mem)) => if (a134.1 0 34) = (2 : Int32) then (bd (f_X8_isAt N (48 : Int32) (57 : Int32) a134) (fun v7 => if v7 = 0 then (k207 ()) else (jn (fun (a191 : Int32) => nm (setI a134 0 35 a191) (fun M9 => nm (setI M9 0 33 ((M9.1 0 33) + (1 : Int32))) (fun M10 => k134 M10))) (fun (k191 : Int32 → Option (Mem)) => if (a134.1 0 35) ≤ (9999 : Int32) then (ck (inb (a134.1 0 33) 120) (k191 ((((10 : Int32) * (a134.1 0 35)) + (a134.1 18 (a134.1 0 33).toNatClampNeg)) - (48 : Int32)))) else (k191 (a134.1 0 35)))))) else (k207 ()))) N E) = some A ∧ GsA M A ∧ RqM A tp T pos := by
    intro htW
    refine lp_S (S := fun o => ∃ A, o = some A ∧ GsA M A ∧ RqM A tp T pos) (fun n (H : Mem) => ∃ t, t + n = T ∧ GsA M H ∧ H.1 0 34 = nI (tqK tp T pos) ∧ H.1 0 33 = nI t ∧ H.1 0 32 = nI (tqS tp T pos) ∧ (tqK tp T pos = 1 → t = tqW tp T pos) ∧ (tqK tp T pos = 2 → tqS tp T pos ≤ t ∧ t ≤ tqN tp T pos ∧ pas tp T 48 57 t = tqN tp T pos ∧ H.1 0 35 = nI (vrF tp (tqS tp T pos) (t - tqS tp T pos))) ∧ (tqK tp T pos ≠ 1 → tqK tp T pos ≠ 2 → t = tqS tp T pos)) (fun n H rk hJ => ?_) N n _ ⟨t, ht, hE, e34, e33, e32, htW, fun k2 => by
      have := eO (by omega)
      subst this
      exact ⟨Nat.le_refl _, n1, rfl, by rw [Nat.sub_self]; exact e35⟩, fun k1 _ => eO k1⟩ (by omega)
    obtain ⟨t', ht', hH, h34, h33', h32, hW, hNN, hO⟩ := hJ
    have hTH := hH.tp h
    have endK : ¬ (tqK tp T pos = 2 ∧ t' < tqN tp T pos) → ∃ A, (jn (fun (a225 : Int32) => nm (setI H 0 33 ((H.1 0 33) + a225)) (fun M6 => some M6)) (fun (k225 : Int32 → Option (Mem)) => if (H.1 0 34) = (3 : Int32) then (k225 (1 : Int32)) else (k225 (0 : Int32)))) = some A ∧ GsA M A ∧ RqM A tp T pos := by
      intro hend
      rw [jn_if, nm_e1, h34, h33']
      have hk3 : nI (tqK tp T pos) = (3 : Int32) ↔ tqK tp T pos = 3 := nI_eq (b := 3) (by omega) (by decide)
      refine ⟨_, rfl, hH.tr (GsA.set (by omega)), by simp [setI_1, h34], by simp [setI_1, h32], fun k4 => ?_, fun k2 => ?_⟩
      · rw [setI_1, if_pos rfl, if_pos rfl]
        by_cases c3 : tqK tp T pos = 3
        · rw [if_pos (hk3.mpr c3), nI_1]
          have := hO (by omega) (by omega)
          unfold tqE
          rw [if_neg (by omega), if_neg (by omega), if_neg (by omega), this]
        · rw [if_neg (fun q => c3 (hk3.mp q)), show (0 : Int32) = nI 0 from rfl, nI_add, Nat.add_zero]
          unfold tqE
          by_cases q0 : tqK tp T pos = 0
          · rw [if_pos q0, hO (by omega) (by omega)]
          · rw [if_neg q0]
            by_cases q1 : tqK tp T pos = 1
            · rw [if_pos q1, hW q1]
            · rw [if_neg q1]
              have q2 : tqK tp T pos = 2 := by omega
              rw [if_pos q2]
              have := hNN q2
              have : ¬ t' < tqN tp T pos := fun z => hend ⟨q2, z⟩
              rw [show t' = tqN tp T pos by omega]
      · have := hNN k2
        have hz : ¬ t' < tqN tp T pos := fun z => hend ⟨k2, z⟩
        have e : t' = tqN tp T pos := by omega
        rw [e] at this
        rw [setI_1, if_pos rfl, if_neg (by decide)]
        exact this.2.2.2
    simp only [jn_e]
    simp only [jn_e] at endK
    have hk2 : H.1 0 34 = (2 : Int32) ↔ tqK tp T pos = 2 := by rw [h34]; exact nI_eq (b := 2) (by omega) (by decide)
    by_cases c2 : tqK tp T pos = 2
    · rw [if_pos (hk2.mpr c2), isAtM hTH h33' (by omega) 48 57, bd_s, ite_bI]
      obtain ⟨x1, x2, x3, x4⟩ := hNN c2
      have pe := pas_e tp T 48 57 t'
      by_cases c : t' < T ∧ 48 ≤ tp t' ∧ tp t' ≤ 57
      · right
        rw [if_pos c]
        rw [if_pos c] at pe
        have hlt : t' < tqN tp T pos := by
          have := (pas_lt (tp := tp) (lo := 48) (hi := 57) (show t' ≤ T by omega)).mpr c
          omega
        obtain ⟨d1, d2⟩ := dgt_e c.2
        have hb := (v_bd (tp := tp) (s := tqS tp T pos) (t' - tqS tp T pos) (fun i i1 i2 => n4 i i1 (by omega))).2.1
        have hst : vrF tp (tqS tp T pos) (t' + 1 - tqS tp T pos) = if vrF tp (tqS tp T pos) (t' - tqS tp T pos) ≤ 9999 then 10 * vrF tp (tqS tp T pos) (t' - tqS tp T pos) + dgt tp t' else vrF tp (tqS tp T pos) (t' - tqS tp T pos) := by
          rw [show t' + 1 - tqS tp T pos = (t' - tqS tp T pos) + 1 by omega]
          show (if _ then _ + dgt tp (tqS tp T pos + (t' - tqS tp T pos)) else _) = _
          rw [show tqS tp T pos + (t' - tqS tp T pos) = t' by omega]
        have go : ∀ v : Int32, v = nI (vrF tp (tqS tp T pos) (t' + 1 - tqS tp T pos)) → ∃ m c, m < n ∧ (∃ t, t + m = T ∧ GsA M c ∧ c.1 0 34 = nI (tqK tp T pos) ∧ c.1 0 33 = nI t ∧ c.1 0 32 = nI (tqS tp T pos) ∧ (tqK tp T pos = 1 → t = tqW tp T pos) ∧ (tqK tp T pos = 2 → tqS tp T pos ≤ t ∧ t ≤ tqN tp T pos ∧ pas tp T 48 57 t = tqN tp T pos ∧ c.1 0 35 = nI (vrF tp (tqS tp T pos) (t - tqS tp T pos))) ∧ (tqK tp T pos ≠ 1 → tqK tp T pos ≠ 2 → t = tqS tp T pos)) ∧ nm (setI H 0 35 v) (fun M9 => nm (setI M9 0 33 ((M9.1 0 33) + (1 : Int32))) (fun M10 => rk M10)) = rk c := fun v hv => by
          rw [nm_e1, nm_e1]
          have e33' : (setI H 0 35 v).1 0 33 = nI t' := by simp [setI_1, h33']
          rw [e33', nI_1]
          refine ⟨n - 1, _, by omega, ⟨t' + 1, by omega, hH.tr ((GsA.set (by omega)).tr (GsA.set (by omega))), by simp [setI_1, h34], by simp [setI_1], by simp [setI_1, h32], fun k1 => by omega, fun _ => ⟨by omega, by omega, by rw [← x3]; exact pe.symm, by simp [setI_1, hv]⟩, fun _ k2 => absurd c2 k2⟩, rfl⟩
        simp only [nm_e1] at go ⊢
        rw [x4, h33', ck_t (inb_nI (by omega) (by decide)), nI_clamp (by omega), hTH.2.2 t' c.1]
        by_cases c9 : vrF tp (tqS tp T pos) (t' - tqS tp T pos) ≤ 9999
        · rw [if_pos (show nI (vrF tp (tqS tp T pos) (t' - tqS tp T pos)) ≤ (9999 : Int32) from nI_le (b := 9999) c9 (by decide))]
          refine go _ ?_
          rw [hst, if_pos c9, d1, show (10 : Int32) = nI 10 from rfl, pk_mul, nI_add, show (48 : Int32) = nI 48 from rfl, pk_sub (by omega), show 10 * vrF tp (tqS tp T pos) (t' - tqS tp T pos) + (48 + dgt tp t') - 48 = 10 * vrF tp (tqS tp T pos) (t' - tqS tp T pos) + dgt tp t' by omega]
        · rw [if_neg (show ¬ nI (vrF tp (tqS tp T pos) (t' - tqS tp T pos)) ≤ (9999 : Int32) from nI_ge (a := 9999) (by omega) (by omega))]
          refine go _ ?_
          rw [hst, if_neg c9]
      · left
        rw [if_neg c]
        rw [if_neg c] at pe
        exact endK (fun q => by omega)
    · left
      rw [if_neg (fun q => c2 (hk2.mp q))]
      exact endK (fun q => c2 q.1)
  by_cases c1 : tqK tp T pos = 1
  · rw [if_pos (show nI (tqK tp T pos) = (1 : Int32) by rw [c1]; rfl)]
    have pe := pas_e tp T 97 122 t
    by_cases c : t < T ∧ 97 ≤ tp t ∧ tp t ≤ 122
    · right
      rw [if_pos c, e33, nI_1]
      rw [if_pos c] at pe
      exact ⟨n - 1, _, by omega, ⟨t + 1, by omega, hE.tr (GsA.set (by omega)), by simp [setI_1, e34], by simp [setI_1], by simp [setI_1, e32], by simp [setI_1, e35], fun k1 => by rw [← eW k1]; exact pe.symm, fun k1 => absurd c1 k1⟩, rfl⟩
    · left
      rw [if_neg c]
      rw [if_neg c] at pe
      exact after (fun k1 => by rw [← eW k1]; exact pe.symm)
  · left
    rw [if_neg (show ¬ nI (tqK tp T pos) = (1 : Int32) from fun q => c1 ((nI_eq (b := 1) (by omega) (by decide)).mp q))]
    exact after (fun k1 => absurd k1 c1)
