/-! lengths, and how many lines are gone along -/
/-- gaps as the reference has them (one may be wider) -/
def WdM (M : Mem) (G : Gr) (g : Nat → Nat) : Prop := (∃ z ls, NetM M G z ls) ∧ (M.1 0 8 = -1 ∧ g = gG G ∨ ∃ w k, w < gN G ∧ k ≤ 9 ∧ M.1 0 8 = nI w ∧ M.1 0 9 = nI k ∧ g = fun l => gG G l + if l = w then k else 0)
theorem WdM.ag {M A : Mem} {G : Gr} {g : Nat → Nat} (h : WdM M G g) (h0 : ∀ j, j < 10 → A.1 0 j = M.1 0 j) (ha : ∀ a, 1 ≤ a → a ≤ 5 → A.1 a = M.1 a ∧ A.2 a = M.2 a) : WdM A G g := by
  obtain ⟨⟨z, ls, h1⟩, h2⟩ := h
  refine ⟨⟨z, ls, h1.ag (fun j hj => h0 j (by omega)) ha⟩, ?_⟩
  rw [h0 8 (by omega), h0 9 (by omega)]
  exact h2
theorem WdM.le {M : Mem} {G : Gr} {g : Nat → Nat} (hG : GrOk G) (h : WdM M G g) {l : Nat} (hl : l < gN G) : 1 ≤ g l ∧ g l ≤ 14 := by
  have := gG_in hG hl
  rcases h.2 with ⟨-, rfl⟩ | ⟨w, k, -, hk, -, -, rfl⟩
  · omega
  · dsimp only; split <;> omega
theorem gapW {N : Nat} {G : Gr} {M : Mem} {g : Nat → Nat} (hG : GrOk G) (h : WdM M G g) {l : Nat} (hl : l < gN G) : f_X8_gap N (nI l) M = some (nI (g l)) := by
  have hn := hG.2.1
  obtain ⟨⟨z, ls, h1⟩, h2⟩ := h
  rcases h2 with ⟨h2, rfl⟩ | ⟨w, k, hw, hk, e8, e9, rfl⟩
  · exact gapM hG h1 h2 hl
  · have hP := hG.1
    obtain ⟨o1, o2, o3, o4, o5⟩ := hG.2.2.1 l hl
    obtain ⟨k1, k2, k3, k4⟩ := h1.2.2.2.1 l hl
    have l10 : inb (nI l) 10 := inb_nI (by omega) (by decide)
    have cl : (nI l).toNatClampNeg = l := nI_clamp (by omega)
    unfold f_X8_gap
    simp only [ck_t l10, cl, k1, k2, k3, k4]
    rw [gapBy_e o1 ⟨o2, o3⟩ o4 (by omega), bd_s, e8, e9]
    by_cases c : l = w
    · rw [if_pos (by rw [c]), nI_add, if_pos c]
    · rw [if_neg (nI_ne (by omega) (by omega) c), if_neg c, show (0 : Int32) = nI 0 from rfl, nI_add]
theorem lenM {N : Nat} (hN : 2000 ≤ N) {G : Gr} {M : Mem} {g : Nat → Nat} (hG : GrOk G) (h : WdM M G g) {m : Nat} (hm : m < 2 ^ gN G) : f_X8_length N (nI m) M = some (nI (lnR (gN G) g m)) := by
  have hn := hG.2.1
  have hm10 := lt1024 hm hn
  obtain ⟨z, ls, h1⟩ := h.1
  unfold f_X8_length
  refine lp_cnt (gN G) (fun l (a : Int32 × Int32) => a = (nI (lnS g m l), nI l)) (fun l a rc hl hI => Or.inr ?_) (fun a rc hI => ?_) N 0 _ (by omega) rfl (by omega)
  · subst hI
    refine ⟨(nI (lnS g m (l + 1)), nI (l + 1)), rfl, ?_⟩
    dsimp only
    rw [h1.2.1, if_neg (nI_ge hl (by omega)), hasM (by omega) (by omega), bd_s]
    simp only [jn_e, nm_e1, nI_1]
    show _ = rc (nI (lnS g m l + (if m.testBit l then g l else 0)), _)
    cases c : m.testBit l
    · rw [if_pos (show bB false = 0 from rfl), show (0 : Int32) = nI 0 from rfl, nI_add]; rfl
    · rw [if_neg (show ¬ bB true = 0 by decide), gapW hG h hl, bd_s, nI_add]; rfl
  · subst hI
    dsimp only
    rw [h1.2.1, if_pos (nI_le (a := gN G) (b := gN G) (Nat.le_refl _) (by omega)), btM1 hN hm10, bd_s]
    unfold lnR
    rw [← pc_cntn hm hn]
    by_cases c : pc m = 1
    · rw [if_pos (by rw [c]; rfl), if_pos c, show (2 : Int32) = nI 2 from rfl, pk_mul, Nat.mul_comm]
    · rw [if_neg (ne1 (by have := pc_le m; omega) c), if_neg c, Nat.mul_one]
theorem alw_le {n m : Nat} {U : Nat → Bool} {t : Nat} : alw n m U t ≤ cnt m.testBit n := cnt_le _ (fun l _ h => by simp at h; exact h.1)
/-- whichever way round -/
theorem few_dir {G : Gr} (hG : GrOk G) {m t : Nat} {U V : Nat → Bool} (h : Cyc G m.testBit U) (h' : Cyc G m.testBit V) : fewN (gN G) m U t = fewN (gN G) m V t := by
  rcases h.uniq hG h' with q | q
  · have : alw (gN G) m U t = alw (gN G) m V t := cnt_cg _ (fun l hl => by
      cases c : m.testBit l
      · rfl
      · rw [q l hl c])
    unfold fewN
    rw [this]
  · have e := cnt_split (p := m.testBit) (q := fun l => U l ^^ t.testBit l) (gN G)
    have e2 : cnt (fun l => m.testBit l && !(U l ^^ t.testBit l)) (gN G) = alw (gN G) m V t := cnt_cg _ (fun l hl => by
      cases c : m.testBit l
      · rfl
      · rw [q l hl c]; cases V l <;> cases t.testBit l <;> rfl)
    have e3 : cnt (fun l => m.testBit l && (U l ^^ t.testBit l)) (gN G) = alw (gN G) m U t := rfl
    rw [e2, e3] at e
    unfold fewN
    generalize alw (gN G) m U t = a at *
    generalize alw (gN G) m V t = b at *
    rw [e]
    split
    · rfl
    · split <;> split <;> omega
theorem alX {N : Nat} {G : Gr} {M : Mem} (hG : GrOk G) (h : RgX M G) {i t : Nat} (hi : i < rN G) (ht : t < 2 ^ gN G) : f_X4_along N (nI i) (nI t) M = some (nI (rA G t i)) := by
  have hn := hG.2.1
  have hR := rN_le hG
  obtain ⟨r1, -⟩ := rS_ok hi
  have hm := r1.2.1
  obtain ⟨q1, -, q3, u, q4, hu, hd⟩ := h.2.2 i hi
  have i64 : inb (nI i) 64 := inb_nI (by omega) (by decide)
  have ci : (nI i).toNatClampNeg = i := nI_clamp (by omega)
  unfold f_X4_along
  simp only [ck_t i64, ci, q1, q3, q4]
  show _ = some (nI (fewN (gN G) (rS G i) (dirR G (rS G i)) t))
  generalize rS G i = m at *
  have hcb := cnt_bd (p := m.testBit) (gN G)
  rcases hd with ⟨d1, d2⟩ | hd
  · rw [d1]
    unfold fewN
    rw [if_pos (show nI 1 = 1 from rfl), if_pos d1]; rfl
  · have h3 := hd.three hG
    rw [if_neg (ne1 (by omega) (by omega)), nI_xor, nI_and]
    have hw : (u ^^^ t) &&& m < 2 ^ gN G := sub_lt (fun j hj => by rw [Nat.testBit_and] at hj; simp at hj; exact hj.2) hm
    have e : cnt ((u ^^^ t) &&& m).testBit (gN G) = alw (gN G) m u.testBit t := cnt_cg _ (fun l _ => by rw [Nat.testBit_and, Nat.testBit_xor, Bool.and_comm])
    rw [bcX (lt1024 hw hn), bd_s, pc_cntn hw hn, e]
    have hle := alw_le (n := gN G) (m := m) (U := u.testBit) (t := t)
    rw [pk_sub hle, minI (by omega) (by omega), bd_s, ← few_dir hG hd (dirR_c ⟨_, hd⟩)]
    unfold fewN
    rw [if_neg (show ¬ cnt m.testBit (gN G) = 1 by omega)]
theorem fewM {N : Nat} (hN : 2000 ≤ N) {G : Gr} {M : Mem} (hG : GrOk G) (h : RgM M G) {i t : Nat} (hi : i < rN G) (ht : t < 2 ^ gN G) : f_X8_fewer N (nI i) (nI t) M = some (nI (rA G t i)) := by
  have hn := hG.2.1
  have hR := rN_le hG
  obtain ⟨r1, -⟩ := rS_ok hi
  have hm := r1.2.1
  obtain ⟨q1, -, hd⟩ := h.2 i hi
  have i200 : inb (nI i) 200 := inb_nI (by omega) (by decide)
  have ci : (nI i).toNatClampNeg = i := nI_clamp (by omega)
  unfold f_X8_fewer
  simp only [ck_t i200, ci, q1]
  show _ = some (nI (fewN (gN G) (rS G i) (dirR G (rS G i)) t))
  generalize rS G i = m at *
  have hcb := cnt_bd (p := m.testBit) (gN G)
  rw [btM1 hN (lt1024 hm hn), bd_s, pc_cntn hm hn]
  by_cases c : cnt m.testBit (gN G) = 1
  · rw [if_pos (by rw [c]; rfl)]
    unfold fewN
    rw [if_pos c]; rfl
  · obtain ⟨u, hf, hu, hC⟩ := hd c
    rw [if_neg (ne1 (by omega) c), hf, nI_xor, nI_andn]
    have hw : adn m (t ^^^ adn m u) < 2 ^ gN G := adn_lt hm
    have e : cnt (adn m (t ^^^ adn m u)).testBit (gN G) = alw (gN G) m u.testBit t := cnt_cg _ (fun l _ => by
      rw [adn_tb, Nat.testBit_xor, adn_tb]
      cases m.testBit l <;> cases u.testBit l <;> cases t.testBit l <;> rfl)
    rw [btM1 hN (lt1024 hw hn), bd_s, pc_cntn hw hn, e]
    have hle := alw_le (n := gN G) (m := m) (U := u.testBit) (t := t)
    rw [pk_sub hle, ← few_dir hG hC (dirR_c ⟨_, hC⟩)]
    unfold fewN
    rw [if_neg c]
    generalize alw (gN G) m u.testBit t = a at *
    generalize cnt m.testBit (gN G) = k at *
    by_cases d : k - a ≤ a
    · rw [if_pos (nI_le d (by omega))]
      congr 2
      split <;> omega
    · rw [if_neg (nI_ge (by omega) (by omega)), if_pos (by omega)]
theorem rA_le {G : Gr} (hG : GrOk G) {t i : Nat} : rA G t i ≤ 10 := by
  have hn := hG.2.1
  unfold rA alR fewN
  have hcb := cnt_bd (p := (rS G i).testBit) (gN G)
  have hle := alw_le (n := gN G) (m := rS G i) (U := dirR G (rS G i)) (t := t)
  split
  · omega
  · split <;> omega
theorem rL_le {G : Gr} (hG : GrOk G) {g : Nat → Nat} (hg : ∀ l, l < gN G → g l ≤ 14) {i : Nat} : rL G g i ≤ 280 := by
  have hn := hG.2.1
  unfold rL lnR
  have := lnS_le (g := g) (m := rS G i) (c := 14) (gN G) hg
  split <;> omega
theorem lnS_pos {g : Nat → Nat} {m l : Nat} (h : m.testBit l = true) (hg : 1 ≤ g l) : ∀ n, l < n → 1 ≤ lnS g m n
  | 0, hl => absurd hl (Nat.not_lt_zero _)
  | n + 1, hl => by
    show 1 ≤ lnS g m n + (if m.testBit n then g n else 0)
    by_cases c : l = n
    · subst c; rw [if_pos h]; omega
    · have := lnS_pos h hg n (by omega); omega
theorem rL_pos {G : Gr} {g : Nat → Nat} (hg : ∀ l, l < gN G → 1 ≤ g l) {i : Nat} (hi : i < rN G) : 1 ≤ rL G g i := by
  obtain ⟨⟨r1, r2, -⟩, -⟩ := rS_ok hi
  obtain ⟨l, hl⟩ := ne_tb r1
  have hln : l < gN G := by
    rcases Nat.lt_or_ge l (gN G) with q | q
    · exact q
    · rw [tb_hi r2 q] at hl; exact absurd hl (by decide)
  have := lnS_pos hl (hg l hln) (gN G) hln
  unfold rL lnR
  split <;> omega
