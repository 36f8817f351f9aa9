def RgM (M : Mem) (G : Gr) : Prop := M.1 0 17 = nI (rN G) ∧ ∀ i, i < rN G → M.1 8 i = nI (rS G i) ∧ M.1 10 i = nI (ptR G (rS G i)) ∧ DirM G (rS G i) (M.1 9 i)
def RgT (A : Mem) (G : Gr) (s : Nat) : Prop := A.1 0 17 = nI (cnt (isRb G) s) ∧ ∀ m, m < s → isR G m → A.1 8 (cnt (isRb G) m) = nI m ∧ A.1 10 (cnt (isRb G) m) = nI (ptR G m) ∧ DirM G m (A.1 9 (cnt (isRb G) m))
theorem RgT.no {A : Mem} {G : Gr} {s : Nat} (h : RgT A G s) (hs : ¬ isR G s) : RgT A G (s + 1) := by
  unfold RgT
  rw [cnt_s0 (isRb_f hs)]
  refine ⟨h.1, fun m hm hr => h.2 m ?_ hr⟩
  by_cases c : m = s
  · rw [c] at hr; exact absurd hr hs
  · omega
theorem RgT.add {A : Mem} {G : Gr} {s : Nat} {f : Int32} (h : RgT A G s) (hs : isR G s) (hu : DirM G s f) : RgT (lyR A (cnt (isRb G) s) s f (ptR G s)) G (s + 1) := by
  unfold RgT
  rw [cnt_s1 (isRb_t.mpr hs)]
  refine ⟨by simp [lyR, setI_1], fun m hm hr => ?_⟩
  by_cases c : m = s
  · subst c
    exact ⟨by simp [lyR, setI_1], by simp [lyR, setI_1], by simpa [lyR, setI_1] using hu⟩
  · have hlt : m < s := by omega
    have h1 : cnt (isRb G) (m + 1) ≤ cnt (isRb G) s := cnt_mono _ _ hlt
    rw [cnt_s1 (isRb_t.mpr hr)] at h1
    have hne : ¬ cnt (isRb G) m = cnt (isRb G) s := by omega
    obtain ⟨q1, q2, q3⟩ := h.2 m hlt hr
    exact ⟨by simp [lyR, setI_1, hne, q1], by simp [lyR, setI_1, hne, q2], by simpa [lyR, setI_1, hne] using q3⟩
theorem RgT.fin {A : Mem} {G : Gr} (h : RgT A G (2 ^ gN G)) : RgM A G := by
  refine ⟨h.1, fun i hi => ?_⟩
  obtain ⟨n1, n2, n3⟩ := nth_ok (2 ^ gN G) i hi
  have := h.2 _ n1 (isRb_t.mp n2)
  rw [n3] at this
  exact this
def LyA (M A : Mem) : Prop := (∀ a, a ≠ 0 → a ≠ 8 → a ≠ 9 → a ≠ 10 → A.1 a = M.1 a) ∧ (∀ j, j ≠ 17 → A.1 0 j = M.1 0 j) ∧ A.2 = M.2
theorem LyA.net {M A : Mem} {G : Gr} {z : Int32} {ls : Nat → Int64} (h : LyA M A) (hM : NetM M G z ls) : NetM A G z ls := hM.ag (fun j hj => h.2.1 j (by omega)) (fun a h1 h2 => ⟨h.1 a (by omega) (by omega) (by omega) (by omega), by rw [h.2.2]⟩)
theorem LyA.scr {M A : Mem} (h : LyA M A) : ScrM M A := ⟨fun j hj => h.2.1 j (by omega), fun a ha => ⟨h.1 a (by omega) (by omega) (by omega) (by omega), by rw [h.2.2]⟩, fun j _ => by rw [h.1 23 (by omega) (by omega) (by omega) (by omega)], fun j _ => by rw [h.1 24 (by omega) (by omega) (by omega) (by omega)], fun j _ => by rw [h.2.2]⟩
theorem LyA.add {M A : Mem} (h : LyA M A) (i m : Nat) (f : Int32) (t : Nat) : LyA M (lyR A i m f t) := by
  obtain ⟨h1, h2, h3⟩ := h
  unfold lyR
  exact ⟨fun a a0 a8 a9 a10 => by rw [setI_o a0, setI_o a10, setI_o a9, setI_o a8]; exact h1 a a0 a8 a9 a10, fun j hj => by rw [setI_1, if_pos rfl, if_neg hj, setI_o (by decide), setI_o (by decide), setI_o (by decide)]; exact h2 j hj, h3⟩
theorem laysRM {N : Nat} (hN : 2000 ≤ N) {G : Gr} {z : Int32} {ls : Nat → Int64} {M : Mem} (hG : GrOk G) (hR : rN G ≤ 64) (h : NetM M G z ls) : ∃ M', f_X8_laysRings N M = some M' ∧ LyA M M' ∧ RgM M' G := by
  have hn := hG.2.1
  have h2n := two_le hn
  have hpos : 0 < 2 ^ gN G := Nat.two_pow_pos _
  unfold f_X8_laysRings
  rw [nm_e1]
  have h0 : ¬ isR G 0 := fun q => q.1 rfl
  have hA0 : LyA M (setI M 0 17 0) := ⟨fun a a0 _ _ _ => setI_o a0, fun j hj => by rw [setI_1, if_pos rfl, if_neg hj], rfl⟩
  have hT0 : RgT (setI M 0 17 0) G 1 := by
    refine ⟨?_, fun m hm hr => ?_⟩
    · rw [cnt_s0 (isRb_f h0)]; simp [setI_1]; rfl
    · have : m = 0 := by omega
      subst this; exact absurd hr h0
  refine lp_S (S := fun o => ∃ M', o = some M' ∧ LyA M M' ∧ RgM M' G) (fun k (a : Int32 × Mem) => ∃ s B, s + k = 2 ^ gN G ∧ 1 ≤ s ∧ a = (nI s, B) ∧ LyA M B ∧ RgT B G s) (fun k a rc hJ => ?_) N (2 ^ gN G - 1) _ ⟨1, _, by omega, by omega, rfl, hA0, hT0⟩ (by omega)
  obtain ⟨s, B, hk, hs1, rfl, hB, hS⟩ := hJ
  have hMB := hB.net h
  dsimp only
  rw [hMB.2.1, sh1 (show gN G < 31 by omega)]
  cases k with
  | zero =>
    left
    have hs : s = 2 ^ gN G := by omega
    subst hs
    rw [if_pos (nI_le (Nat.le_refl _) (by omega))]
    exact ⟨B, rfl, hB, hS.fin⟩
  | succ k =>
    right
    have hs : s < 2 ^ gN G := by omega
    rw [if_neg (nI_ge hs (by omega))]
    have hc : cnt (isRb G) s ≤ rN G := cnt_mono _ _ (by omega)
    rcases takM (N := N) hN hG hMB hs (by omega) hS.1 (by omega) with ⟨hr, e⟩ | ⟨hr, f, e, hf⟩
    · rw [e, bd_s, nm_e1, nI_1]
      exact ⟨k, _, by omega, ⟨s + 1, B, by omega, by omega, rfl, hB, hS.no hr⟩, rfl⟩
    · rw [e, bd_s, nm_e1, nI_1]
      exact ⟨k, _, by omega, ⟨s + 1, _, by omega, by omega, rfl, hB.add _ _ _ _, hS.add hr hf⟩, rfl⟩
