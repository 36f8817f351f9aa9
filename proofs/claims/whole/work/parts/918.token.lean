/-! tokens of a text -/
def pasF (tp : Nat → Int32) (T : Nat) (lo hi : Int32) : Nat → Nat → Nat
  | 0, i => i
  | f + 1, i => if i < T ∧ lo ≤ tp i ∧ tp i ≤ hi then pasF tp T lo hi f (i + 1) else i
def pas (tp : Nat → Int32) (T : Nat) (lo hi : Int32) (i : Nat) : Nat := pasF tp T lo hi (T - i) i
theorem pas_e (tp : Nat → Int32) (T : Nat) (lo hi : Int32) (i : Nat) : pas tp T lo hi i = if i < T ∧ lo ≤ tp i ∧ tp i ≤ hi then pas tp T lo hi (i + 1) else i := by
  unfold pas
  by_cases c : i < T
  · rw [show T - i = (T - (i + 1)) + 1 by omega]; rfl
  · rw [show T - i = 0 by omega, if_neg (fun q => c q.1)]; rfl
theorem pas_bd (tp : Nat → Int32) (T : Nat) (lo hi : Int32) : ∀ n i, T - i ≤ n → i ≤ T → i ≤ pas tp T lo hi i ∧ pas tp T lo hi i ≤ T ∧ ¬ (pas tp T lo hi i < T ∧ lo ≤ tp (pas tp T lo hi i) ∧ tp (pas tp T lo hi i) ≤ hi) ∧ ∀ j, i ≤ j → j < pas tp T lo hi i → lo ≤ tp j ∧ tp j ≤ hi
  | 0, i, h, hT => by
    have e : i = T := by omega
    rw [pas_e, if_neg (fun q => by omega)]
    exact ⟨Nat.le_refl _, hT, fun q => by omega, fun j h1 h2 => by omega⟩
  | n + 1, i, h, hT => by
    rw [pas_e]
    by_cases c : i < T ∧ lo ≤ tp i ∧ tp i ≤ hi
    · rw [if_pos c]
      obtain ⟨h1, h2, h3, h4⟩ := pas_bd tp T lo hi n (i + 1) (by omega) (by omega)
      refine ⟨by omega, h2, h3, fun j j1 j2 => ?_⟩
      by_cases e : j = i
      · rw [e]; exact c.2
      · exact h4 j (by omega) j2
    · rw [if_neg c]
      exact ⟨Nat.le_refl _, hT, c, fun j h1 h2 => by omega⟩
theorem pasO {tp : Nat → Int32} {T : Nat} {lo hi : Int32} {i : Nat} (h : i ≤ T) : i ≤ pas tp T lo hi i ∧ pas tp T lo hi i ≤ T ∧ ¬ (pas tp T lo hi i < T ∧ lo ≤ tp (pas tp T lo hi i) ∧ tp (pas tp T lo hi i) ≤ hi) ∧ ∀ j, i ≤ j → j < pas tp T lo hi i → lo ≤ tp j ∧ tp j ≤ hi := pas_bd tp T lo hi (T - i) i (Nat.le_refl _) h
theorem pas_lt {tp : Nat → Int32} {T : Nat} {lo hi : Int32} {i : Nat} (h : i ≤ T) : i < pas tp T lo hi i ↔ i < T ∧ lo ≤ tp i ∧ tp i ≤ hi := by
  rw [pas_e]
  by_cases c : i < T ∧ lo ≤ tp i ∧ tp i ≤ hi
  · rw [if_pos c]
    have := (pasO (tp := tp) (lo := lo) (hi := hi) (show i + 1 ≤ T by omega)).1
    exact ⟨fun _ => c, fun _ => by omega⟩
  · rw [if_neg c]; exact ⟨fun q => absurd q (Nat.lt_irrefl _), fun q => absurd q c⟩
/-- the token at a place: where it begins, its sort, where it ends -/
def tqS (tp : Nat → Int32) (T pos : Nat) : Nat := pas tp T 32 32 pos
def tqW (tp : Nat → Int32) (T pos : Nat) : Nat := pas tp T 97 122 (tqS tp T pos)
def tqN (tp : Nat → Int32) (T pos : Nat) : Nat := pas tp T 48 57 (tqS tp T pos)
def tqK (tp : Nat → Int32) (T pos : Nat) : Nat := if T ≤ tqS tp T pos then 0 else if tqS tp T pos < tqW tp T pos then 1 else if tqS tp T pos < tqN tp T pos then 2 else if tp (tqS tp T pos) = 59 then 3 else 4
def tqE (tp : Nat → Int32) (T pos : Nat) : Nat := if tqK tp T pos = 0 then tqS tp T pos else if tqK tp T pos = 1 then tqW tp T pos else if tqK tp T pos = 2 then tqN tp T pos else tqS tp T pos + 1
theorem tq_bd {tp : Nat → Int32} {T pos : Nat} (h : pos ≤ T) : pos ≤ tqS tp T pos ∧ tqS tp T pos ≤ T ∧ tqS tp T pos ≤ tqE tp T pos ∧ tqE tp T pos ≤ T ∧ tqK tp T pos ≤ 4 ∧ (tqK tp T pos ≠ 0 → tqS tp T pos < T ∧ tqS tp T pos < tqE tp T pos) := by
  obtain ⟨h1, h2, -, -⟩ := pasO (tp := tp) (lo := 32) (hi := 32) h
  have h1 : pos ≤ tqS tp T pos := h1
  have h2 : tqS tp T pos ≤ T := h2
  obtain ⟨w1, w2, -, -⟩ := pasO (tp := tp) (lo := 97) (hi := 122) h2
  have w1 : tqS tp T pos ≤ tqW tp T pos := w1
  have w2 : tqW tp T pos ≤ T := w2
  obtain ⟨n1, n2, -, -⟩ := pasO (tp := tp) (lo := 48) (hi := 57) h2
  have n1 : tqS tp T pos ≤ tqN tp T pos := n1
  have n2 : tqN tp T pos ≤ T := n2
  unfold tqE tqK
  generalize tqS tp T pos = s at *
  generalize tqW tp T pos = w at *
  generalize tqN tp T pos = n at *
  by_cases c0 : T ≤ s
  · simp [c0]; omega
  · by_cases c1 : s < w
    · simp [c0, c1]; omega
    · by_cases c2 : s < n
      · simp [c0, c1, c2]; omega
      · by_cases c3 : tp s = 59
        · simp [c0, c1, c2, c3]; omega
        · simp [c0, c1, c2, c3]; omega
/-- values of digits, as the class has them, as the reference has them -/
def dgt (tp : Nat → Int32) (j : Nat) : Nat := (tp j).toNatClampNeg - 48
def vcF (tp : Nat → Int32) (s : Nat) : Nat → Nat
  | 0 => 0
  | m + 1 => if 999 < vcF tp s m then vcF tp s m else vcF tp s m * 10 + dgt tp (s + m)
def vrF (tp : Nat → Int32) (s : Nat) : Nat → Nat
  | 0 => 0
  | m + 1 => if vrF tp s m ≤ 9999 then 10 * vrF tp s m + dgt tp (s + m) else vrF tp s m
theorem dgt_e {tp : Nat → Int32} {j : Nat} (h : 48 ≤ tp j ∧ tp j ≤ 57) : tp j = nI (48 + dgt tp j) ∧ dgt tp j ≤ 9 := by
  obtain ⟨k, hk, e⟩ := nI_of_le (x := tp j) 57 (by decide) ⟨by have h1 := (i_le _ _).mp h.1; rw [i_le]; have e1 : (48 : Int32).toInt = 48 := rfl; have e0 : (0 : Int32).toInt = 0 := rfl; omega, h.2⟩
  have h48 : 48 ≤ k := by
    have := h.1
    rw [e] at this
    exact (nI_leI (a := 48) (by decide) (by omega)).mp this
  unfold dgt
  rw [e, nI_clamp (by omega)]
  exact ⟨by congr 1; omega, by omega⟩
theorem v_bd {tp : Nat → Int32} {s : Nat} : ∀ m, (∀ j, s ≤ j → j < s + m → 48 ≤ tp j ∧ tp j ≤ 57) → vcF tp s m ≤ 9999 ∧ vrF tp s m ≤ 99999 ∧ (vcF tp s m = vrF tp s m ∨ 999 < vcF tp s m ∧ 999 < vrF tp s m)
  | 0, _ => ⟨by show 0 ≤ 9999; omega, by show 0 ≤ 99999; omega, Or.inl rfl⟩
  | m + 1, h => by
    obtain ⟨h1, h2, h3⟩ := v_bd m (fun j j1 j2 => h j j1 (by omega))
    have hd := (dgt_e (h (s + m) (by omega) (by omega))).2
    show (if 999 < vcF tp s m then vcF tp s m else vcF tp s m * 10 + dgt tp (s + m)) ≤ 9999 ∧ (if vrF tp s m ≤ 9999 then 10 * vrF tp s m + dgt tp (s + m) else vrF tp s m) ≤ 99999 ∧ ((if 999 < vcF tp s m then vcF tp s m else vcF tp s m * 10 + dgt tp (s + m)) = (if vrF tp s m ≤ 9999 then 10 * vrF tp s m + dgt tp (s + m) else vrF tp s m) ∨ 999 < (if 999 < vcF tp s m then vcF tp s m else vcF tp s m * 10 + dgt tp (s + m)) ∧ 999 < (if vrF tp s m ≤ 9999 then 10 * vrF tp s m + dgt tp (s + m) else vrF tp s m))
    split <;> split <;> omega
def tqC (tp : Nat → Int32) (T pos : Nat) : Nat := vcF tp (tqS tp T pos) (tqN tp T pos - tqS tp T pos)
def tqR (tp : Nat → Int32) (T pos : Nat) : Nat := vrF tp (tqS tp T pos) (tqN tp T pos - tqS tp T pos)
theorem tq_v {tp : Nat → Int32} {T pos : Nat} (h : pos ≤ T) : tqC tp T pos ≤ 9999 ∧ tqR tp T pos ≤ 99999 ∧ (tqC tp T pos = tqR tp T pos ∨ 999 < tqC tp T pos ∧ 999 < tqR tp T pos) := by
  have h2 := (tq_bd (tp := tp) h).2.1
  obtain ⟨n1, n2, -, n4⟩ := pasO (tp := tp) (lo := 48) (hi := 57) h2
  exact v_bd _ (fun j j1 j2 => n4 j j1 (by
    have : tqN tp T pos = pas tp T 48 57 (tqS tp T pos) := rfl
    omega))
/-! the class reads a token -/
def TpX (M : Mem) (tp : Nat → Int32) (T : Nat) : Prop := T ≤ 120 ∧ M.1 31 0 = nI T ∧ ∀ j, j < T → M.1 32 j = tp j
def TpM (M : Mem) (tp : Nat → Int32) (T : Nat) : Prop := T ≤ 120 ∧ M.1 0 31 = nI T ∧ ∀ j, j < T → M.1 18 j = tp j
theorem povX {N : Nat} (hN : 2000 ≤ N) {M : Mem} {tp : Nat → Int32} {T : Nat} (h : TpX M tp T) {i : Nat} (hi : i ≤ T) (lo hi' : Int32) : f_X6_passOver N (nI i) lo hi' M = some (nI (pas tp T lo hi' i)) := by
  obtain ⟨h1, h2, h3⟩ := h
  unfold f_X6_passOver
  refine lp_S (S := fun o => o = some (nI (pas tp T lo hi' i))) (fun n (a : Int32) => ∃ j, j + n = T ∧ a = nI j ∧ pas tp T lo hi' j = pas tp T lo hi' i) (fun n a rc hJ => ?_) N (T - i) _ ⟨i, by omega, rfl, rfl⟩ (by omega)
  obtain ⟨j, hj, rfl, e⟩ := hJ
  rw [h2]
  have pe := pas_e tp T lo hi' j
  cases n with
  | zero =>
    left
    rw [if_pos (nI_le (by omega) (by omega)), ← e, pe, if_neg (fun q => by omega)]
  | succ n =>
    have hjT : j < T := by omega
    have j120 : inb (nI j) 120 := inb_nI (by omega) (by decide)
    have cj : (nI j).toNatClampNeg = j := nI_clamp (by omega)
    rw [if_neg (nI_ge hjT (by omega))]
    simp only [ck_t j120, cj, h3 j hjT, nm_e1, nI_1]
    by_cases c1 : tp j < lo
    · left
      rw [if_pos c1, ← e, pe, if_neg (fun q => by have := (i_lt _ _).mp c1; have := (i_le _ _).mp q.2.1; omega)]
    · rw [if_neg c1]
      by_cases c2 : hi' < tp j
      · left
        rw [if_pos c2, ← e, pe, if_neg (fun q => by have := (i_lt _ _).mp c2; have := (i_le _ _).mp q.2.2; omega)]
      · right
        rw [if_neg c2]
        refine ⟨n, _, by omega, ⟨j + 1, by omega, rfl, ?_⟩, rfl⟩
        rw [← e, pe, if_pos ⟨hjT, by rw [i_lt] at c1; rw [i_le]; omega, by rw [i_lt] at c2; rw [i_le]; omega⟩]
theorem valX {N : Nat} (hN : 2000 ≤ N) {M : Mem} {tp : Nat → Int32} {T : Nat} (h : TpX M tp T) {s n : Nat} (hs : s ≤ n) (hn : n ≤ T) (hd : ∀ j, s ≤ j → j < n → 48 ≤ tp j ∧ tp j ≤ 57) : f_X6_valueOf N (nI s) (nI n) M = some (nI (vcF tp s (n - s))) := by
  obtain ⟨h1, h2, h3⟩ := h
  unfold f_X6_valueOf
  refine lp_S (S := fun o => o = some (nI (vcF tp s (n - s)))) (fun k (a : Int32 × Int32) => ∃ j, j + k = n ∧ s ≤ j ∧ a = (nI (vcF tp s (j - s)), nI j)) (fun k a rc hJ => ?_) N (n - s) _ ⟨s, by omega, Nat.le_refl _, by rw [Nat.sub_self]; rfl⟩ (by omega)
  obtain ⟨j, hj, hsj, rfl⟩ := hJ
  dsimp only
  cases k with
  | zero =>
    left
    rw [if_pos (nI_le (by omega) (by omega)), show j = n by omega]
  | succ k =>
    right
    have hjn : j < n := by omega
    have j120 : inb (nI j) 120 := inb_nI (by omega) (by decide)
    have cj : (nI j).toNatClampNeg = j := nI_clamp (by omega)
    obtain ⟨d1, d2⟩ := dgt_e (hd j hsj hjn)
    have hb := (v_bd (tp := tp) (s := s) (j - s) (fun i i1 i2 => hd i i1 (by omega))).1
    rw [if_neg (nI_ge hjn (by omega))]
    simp only [jn_e, nm_e1, nI_1, ck_t j120, cj, h3 j (by omega)]
    have hst : vcF tp s (j + 1 - s) = if 999 < vcF tp s (j - s) then vcF tp s (j - s) else vcF tp s (j - s) * 10 + dgt tp j := by
      rw [show j + 1 - s = (j - s) + 1 by omega]
      show (if _ then _ else _ + dgt tp (s + (j - s))) = _
      rw [show s + (j - s) = j by omega]
    refine ⟨k, _, by omega, ⟨j + 1, by omega, by omega, rfl⟩, ?_⟩
    rw [hst]
    by_cases c : 999 < vcF tp s (j - s)
    · rw [if_pos (show (999 : Int32) < nI (vcF tp s (j - s)) from nI_lt (a := 999) c (by omega)), if_pos c]
    · rw [if_neg (show ¬ (999 : Int32) < nI (vcF tp s (j - s)) from nI_nlt (a := 999) (by omega) (by decide)), if_neg c, d1, show (10 : Int32) = nI 10 from rfl, pk_mul, nI_add, show (48 : Int32) = nI 48 from rfl, pk_sub (by omega), show vcF tp s (j - s) * 10 + (48 + dgt tp j) - 48 = vcF tp s (j - s) * 10 + dgt tp j by omega]
/-- only the reader's marks have changed -/
def RdA (M A : Mem) : Prop := (∀ a, a ≠ 31 → A.1 a = M.1 a) ∧ A.1 31 0 = M.1 31 0 ∧ A.2 = M.2
theorem RdA.tr {M A B : Mem} (h : RdA M A) (h2 : RdA A B) : RdA M B := ⟨fun a ha => (h2.1 a ha).trans (h.1 a ha), h2.2.1.trans h.2.1, h2.2.2.trans h.2.2⟩
theorem RdA.tp {M A : Mem} {tp : Nat → Int32} {T : Nat} (h : RdA M A) (hT : TpX M tp T) : TpX A tp T := ⟨hT.1, by rw [h.2.1]; exact hT.2.1, fun j hj => by rw [h.1 32 (by omega)]; exact hT.2.2 j hj⟩
def CqX (A : Mem) (tp : Nat → Int32) (T pos : Nat) : Prop := A.1 31 2 = nI (tqK tp T pos) ∧ A.1 31 3 = nI (tqS tp T pos) ∧ A.1 31 4 = nI (tqE tp T pos) ∧ (tqK tp T pos = 2 → A.1 31 5 = nI (tqC tp T pos))
theorem rdtX {N : Nat} (hN : 2000 ≤ N) {M : Mem} {tp : Nat → Int32} {T pos : Nat} (h : TpX M tp T) (hp : pos ≤ T) (h4 : M.1 31 4 = nI pos) : ∃ A, f_X6_readToken N M = some A ∧ RdA M A ∧ CqX A tp T pos := by
  obtain ⟨b1, b2, -, -, -, -⟩ := tq_bd (tp := tp) hp
  have hT := h.1
  unfold f_X6_readToken
  have e1 : f_X6_passOver N (nI pos) 32 32 M = some (nI (tqS tp T pos)) := povX hN h hp 32 32
  rw [h4, e1, bd_s, nm_e1]
  have hA : RdA M (setI M 31 3 (nI (tqS tp T pos))) := ⟨fun a ha => setI_o ha, by simp [setI_1], rfl⟩
  have e3 : (setI M 31 3 (nI (tqS tp T pos))).1 31 3 = nI (tqS tp T pos) := by simp [setI_1]
  generalize setI M 31 3 (nI (tqS tp T pos)) = A at hA e3 ⊢
  have hTA := hA.tp h
  have ew : f_X6_passOver N (nI (tqS tp T pos)) 97 122 A = some (nI (tqW tp T pos)) := povX hN hTA b2 97 122
  have en : f_X6_passOver N (nI (tqS tp T pos)) 48 57 A = some (nI (tqN tp T pos)) := povX hN hTA b2 48 57
  obtain ⟨w1, w2, -, -⟩ := pasO (tp := tp) (lo := 97) (hi := 122) b2
  have w2 : tqW tp T pos ≤ T := w2
  obtain ⟨n1, n2, -, n4⟩ := pasO (tp := tp) (lo := 48) (hi := 57) b2
  have n1 : tqS tp T pos ≤ tqN tp T pos := n1
  have n2 : tqN tp T pos ≤ T := n2
  have n4 : ∀ j, tqS tp T pos ≤ j → j < tqN tp T pos → 48 ≤ tp j ∧ tp j ≤ 57 := n4
  rw [e3, ew, bd_s, en, bd_s, hTA.2.1]
  have s34 : ∀ (B : Mem) (u v : Int32), RdA A B → RdA M (setI (setI B 31 2 u) 31 4 v) := fun B u v hB => hA.tr (hB.tr ⟨fun a ha => by rw [setI_o ha, setI_o ha], by simp [setI_1], rfl⟩)
  have hAA : RdA A A := ⟨fun _ _ => rfl, rfl, rfl⟩
  have vc : tqC tp T pos = vcF tp (tqS tp T pos) (tqN tp T pos - tqS tp T pos) := rfl
  unfold CqX tqE tqK
  by_cases c0 : T ≤ tqS tp T pos
  · rw [if_neg (nI_nlt c0 (by omega)), nm_e1, nm_e1]
    refine ⟨_, rfl, s34 A _ _ hAA, ?_⟩
    simp only [if_pos c0, if_pos trivial]
    exact ⟨by simp [setI_1]; rfl, by simp [setI_1, e3], by simp [setI_1, e3], fun q => absurd q (by decide)⟩
  · rw [if_pos (nI_lt (by omega) (by omega))]
    by_cases c1 : tqS tp T pos < tqW tp T pos
    · rw [if_neg (nI_ge c1 (by omega)), nm_e1, nm_e1]
      refine ⟨_, rfl, s34 A _ _ hAA, ?_⟩
      simp only [if_neg c0, if_pos c1]
      exact ⟨by simp [setI_1]; rfl, by simp [setI_1, e3], by simp [setI_1], fun q => absurd q (by decide)⟩
    · rw [if_pos (nI_le (by omega) (by omega))]
      by_cases c2 : tqS tp T pos < tqN tp T pos
      · rw [if_neg (nI_ge c2 (by omega)), nm_e1, nm_e1]
        have hB := s34 A 2 (nI (tqN tp T pos)) hAA
        have f3 : (setI (setI A 31 2 2) 31 4 (nI (tqN tp T pos))).1 31 3 = nI (tqS tp T pos) := by simp [setI_1, e3]
        rw [f3, valX hN (hB.tp h) (by omega) n2 n4, bd_s, nm_e1]
        refine ⟨_, rfl, hB.tr ⟨fun a ha => setI_o ha, by simp [setI_1], rfl⟩, ?_⟩
        simp only [if_neg c0, if_neg c1, if_pos c2]
        exact ⟨by simp [setI_1]; rfl, by simp [setI_1, e3], by simp [setI_1], fun _ => by simp [setI_1, vc]⟩
      · have s120 : inb (nI (tqS tp T pos)) 120 := inb_nI (by omega) (by decide)
        have cs : (nI (tqS tp T pos)).toNatClampNeg = tqS tp T pos := nI_clamp (by omega)
        rw [if_pos (nI_le (by omega) (by omega)), ck_t s120, cs, hTA.2.2 _ (by omega)]
        simp only [jn_e, nm_e1]
        have g3 : ∀ u, (setI A 31 2 u).1 31 3 = nI (tqS tp T pos) := fun u => by simp [setI_1, e3]
        rw [g3, g3, nI_1]
        by_cases c3 : tp (tqS tp T pos) = 59
        · rw [if_pos c3]
          refine ⟨_, rfl, s34 A _ _ hAA, ?_⟩
          simp only [if_neg c0, if_neg c1, if_neg c2, if_pos c3]
          exact ⟨by simp [setI_1]; rfl, by simp [setI_1, e3], by simp [setI_1], fun q => absurd q (by decide)⟩
        · rw [if_neg c3]
          refine ⟨_, rfl, s34 A _ _ hAA, ?_⟩
          simp only [if_neg c0, if_neg c1, if_neg c2, if_neg c3]
          exact ⟨by simp [setI_1]; rfl, by simp [setI_1, e3], by simp [setI_1], fun q => absurd q (by decide)⟩
