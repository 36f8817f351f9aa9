/-! the class finds its rings -/
theorem bitT {m l : Nat} (h : l < 31) (hm : m < 2 ^ 31) : ((nI m >>> (nI l &&& 31)) &&& 1) = 1 ↔ m.testBit l = true := by
  rw [bit1 h hm, show (1 : Int32) = nI 1 from rfl, ← tb_dm]
  cases m.testBit l
  · exact ⟨fun q => absurd q (by decide), fun q => absurd q (by decide)⟩
  · exact ⟨fun _ => rfl, fun _ => rfl⟩
theorem hasM {N : Nat} {M : Mem} {m l : Nat} (h : l < 31) (hm : m < 2 ^ 31) : f_X8_has N (nI m) (nI l) M = some (bB (m.testBit l)) := by
  unfold f_X8_has
  cases q : m.testBit l
  · rw [if_neg (fun e => by rw [(bitT h hm).mp e] at q; exact absurd q (by decide))]; rfl
  · rw [if_pos ((bitT h hm).mpr q)]; rfl
theorem lnS_le {g : Nat → Nat} {m c : Nat} : ∀ n, (∀ l, l < n → g l ≤ c) → lnS g m n ≤ c * n
  | 0, _ => Nat.le_refl _
  | n + 1, h => by
    have h1 := lnS_le (m := m) n (fun l hl => h l (by omega))
    have h2 := h n (by omega)
    show lnS g m n + (if m.testBit n then g n else 0) ≤ _
    rw [Nat.mul_succ]
    split <;> omega
def adR (M : Mem) (i m u k v : Nat) : Mem := setI (setI (setI (setI (setI M 20 i (nI m)) 24 i (nI u)) 23 i (nI k)) 21 i (nI v)) 19 0 (nI (i + 1))
theorem adX {N : Nat} (hN : 2000 ≤ N) {G : Gr} {z : Int32} {ls : Nat → Int64} {M : Mem} (hG : GrOk G) (h : NetX M 1 G z ls) {m u t i : Nat} (hm : m < 2 ^ gN G) (hi : M.1 19 0 = nI i) (hi64 : i < 64) : f_X4_addRing N 1 (nI m) (nI u) (nI t) M = some (adR M i m u (cnt m.testBit (gN G)) (lnS (gG G) m (gN G) * t)) := by
  have hn := hG.2.1
  have hm10 := lt1024 hm hn
  have i64 : inb (nI i) 64 := inb_nI hi64 (by decide)
  have ci : (nI i).toNatClampNeg = i := nI_clamp (by omega)
  unfold f_X4_addRing
  rw [hi, if_pos (show nI i < (64 : Int32) from nI_lt (b := 64) hi64 (by decide))]
  refine lp_cnt (gN G) (fun l (a : Int32 × Int32) => a = (nI (lnS (gG G) m l), nI l)) (fun l a rc hl hI => Or.inr ?_) (fun a rc hI => ?_) N 0 _ (by omega) rfl (by omega)
  · subst hI
    refine ⟨(nI (lnS (gG G) m (l + 1)), nI (l + 1)), rfl, ?_⟩
    dsimp only
    rw [h.2.1, if_neg (nI_ge hl (by omega))]
    simp only [jn_e, nm_e1, nI_1]
    show _ = rc (nI (lnS (gG G) m l + (if m.testBit l then gG G l else 0)), _)
    cases c : m.testBit l
    · rw [if_neg (fun e => by rw [(bitT (by omega) (by omega)).mp e] at c; exact absurd c (by decide))]; rfl
    · rw [if_pos ((bitT (by omega) (by omega)).mpr c), gapX hG h hl, bd_s, nI_add]; rfl
  · subst hI
    dsimp only
    rw [h.2.1, if_pos (nI_le (a := gN G) (b := gN G) (Nat.le_refl _) (by omega))]
    simp only [nm_e1, ck_t i64, ci, setI_o (show (19 : Nat) ≠ 20 by decide), setI_o (show (19 : Nat) ≠ 24 by decide), setI_o (show (19 : Nat) ≠ 23 by decide), setI_o (show (19 : Nat) ≠ 21 by decide), hi, bcX hm10, bd_s, pk_mul, nI_1, pc_cntn hm hn]
    rfl
theorem Cyc.nz {G : Gr} {m : Nat} {U : Nat → Bool} (h : Cyc G m.testBit U) : m ≠ 0 := by
  obtain ⟨-, -, -, l, -, hl⟩ := h
  intro e
  rw [e, Nat.zero_testBit] at hl
  exact absurd hl (by decide)
/-- rings found so far -/
def RgS (A : Mem) (G : Gr) (s : Nat) : Prop := A.1 19 0 = nI (cnt (isRb G) s) ∧ ∀ m, m < s → isR G m → A.1 20 (cnt (isRb G) m) = nI m ∧ A.1 21 (cnt (isRb G) m) = nI (lnR (gN G) (gG G) m) ∧ A.1 23 (cnt (isRb G) m) = nI (cnt m.testBit (gN G)) ∧ ∃ u, A.1 24 (cnt (isRb G) m) = nI u ∧ DirOk G m u
theorem cnt_s1 {p : Nat → Bool} {m : Nat} (h : p m = true) : cnt p (m + 1) = cnt p m + 1 := by show cnt p m + (p m).toNat = _; rw [h]; rfl
theorem cnt_s0 {p : Nat → Bool} {m : Nat} (h : p m = false) : cnt p (m + 1) = cnt p m := by show cnt p m + (p m).toNat = _; rw [h]; rfl
theorem isRb_f {G : Gr} {m : Nat} (h : ¬ isR G m) : isRb G m = false := by
  cases q : isRb G m
  · rfl
  · exact absurd (isRb_t.mp q) h
theorem RgS.no {A : Mem} {G : Gr} {s : Nat} (h : RgS A G s) (hs : ¬ isR G s) : RgS A G (s + 1) := by
  unfold RgS
  rw [cnt_s0 (isRb_f hs)]
  refine ⟨h.1, fun m hm hr => h.2 m ?_ hr⟩
  by_cases c : m = s
  · rw [c] at hr; exact absurd hr hs
  · omega
theorem RgS.add {A : Mem} {G : Gr} {s u : Nat} (h : RgS A G s) (hs : isR G s) (hu : DirOk G s u) : RgS (adR A (cnt (isRb G) s) s u (cnt s.testBit (gN G)) (lnR (gN G) (gG G) s)) G (s + 1) := by
  unfold RgS
  rw [cnt_s1 (isRb_t.mpr hs)]
  refine ⟨by simp [adR, setI_1], fun m hm hr => ?_⟩
  by_cases c : m = s
  · subst c
    refine ⟨by simp [adR, setI_1], by simp [adR, setI_1], by simp [adR, setI_1], u, by simp [adR, setI_1], hu⟩
  · have hlt : m < s := by omega
    have h1 : cnt (isRb G) (m + 1) ≤ cnt (isRb G) s := cnt_mono _ _ hlt
    rw [cnt_s1 (isRb_t.mpr hr)] at h1
    have hne : ¬ cnt (isRb G) m = cnt (isRb G) s := by omega
    obtain ⟨q1, q2, q3, v, q4, q5⟩ := h.2 m hlt hr
    refine ⟨?_, ?_, ?_, v, ?_, q5⟩
    · simp [adR, setI_1, hne, q1]
    · simp [adR, setI_1, hne, q2]
    · simp [adR, setI_1, hne, q3]
    · simp [adR, setI_1, hne, q4]
theorem RgS.fin {A : Mem} {G : Gr} (h : RgS A G (2 ^ gN G)) (h7 : A.1 19 7 = nI (2 ^ gN G)) : RgX A G := by
  refine ⟨h.1, h7, fun i hi => ?_⟩
  obtain ⟨n1, n2, n3⟩ := nth_ok (2 ^ gN G) i hi
  have := h.2 _ n1 (isRb_t.mp n2)
  rw [n3] at this
  exact this
theorem rS_ok {G : Gr} {i : Nat} (hi : i < rN G) : isR G (rS G i) ∧ cnt (isRb G) (rS G i) = i := by
  obtain ⟨n1, n2, n3⟩ := nth_ok (2 ^ gN G) i hi
  exact ⟨isRb_t.mp n2, n3⟩
theorem isR_lt {G : Gr} {m : Nat} (h : isR G m) : cnt (isRb G) m < rN G := by
  have h1 : cnt (isRb G) (m + 1) ≤ rN G := cnt_mono _ _ h.2.1
  rw [cnt_s1 (isRb_t.mpr h)] at h1
  omega
theorem rS_at {G : Gr} {m : Nat} (h : isR G m) : rS G (cnt (isRb G) m) = m := nth_at (isRb_t.mpr h) _ h.2.1
/-- memory of a search: net as it was, lines of points told -/
def FrA (M A : Mem) (G : Gr) (n : Nat) : Prop := Ag [19, 20, 21, 22, 23, 24] M A ∧ A.1 19 5 = 1 ∧ A.1 19 6 = M.1 19 6 ∧ A.1 19 7 = nI (2 ^ gN G) ∧ ∀ x, x < 6 → A.1 22 x = nI (mk (fun l => inc G l x) n)
theorem FrA.net {M A : Mem} {G : Gr} {n : Nat} {z : Int32} {ls : Nat → Int64} (h : FrA M A G n) (hX : NetX M 1 G z ls) : NetX A 1 G z ls := hX.ag (fun a h1 h2 => h.1 a (by simp; omega))
theorem FrA.add {M A : Mem} {G : Gr} {n : Nat} (h : FrA M A G n) (i m u k v : Nat) : FrA M (adR A i m u k v) G n := by
  obtain ⟨h1, h2, h3, h4, h5⟩ := h
  refine ⟨h1.tr (fun a ha => ?_), by simp [adR, setI_1, h2], by simp [adR, setI_1, h3], by simp [adR, setI_1, h4], fun x hx => by simp [adR, setI_1, h5 x hx]⟩
  simp at ha
  unfold adR
  exact ⟨by rw [setI_o (by omega), setI_o (by omega), setI_o (by omega), setI_o (by omega), setI_o (by omega)], rfl⟩
