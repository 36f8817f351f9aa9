def holdC (j : Nat) : Nat := 35 + j
def sheetC (j : Nat) : Nat := 40 + 2 * j
def tabX : List Ds := [.inl (7, [some (some 1), some (some 7), some (some 13), none, some (some 19), some (some 26), some (some 31), some (some 33), some (some 34), some (some 39)]), .inl (1, [none, none, none, some (some 2), some (some 3), some (some 4), some (some 5), some (some 6)]), .inr (0, 10, none), .inr (0, 10, none), .inr (0, 10, none), .inr (0, 10, none), .inr (1, 6, some none), .inl (1, [none, none, none, some (some 8), some (some 9), some (some 10), some (some 11), some (some 12)]), .inr (0, 10, none), .inr (0, 10, none), .inr (0, 10, none), .inr (0, 10, none), .inr (1, 6, some none), .inl (1, [none, none, none, some (some 14), some (some 15), some (some 16), some (some 17), some (some 18)]), .inr (0, 10, none), .inr (0, 10, none), .inr (0, 10, none), .inr (0, 10, none), .inr (1, 6, some none), .inl (4, [none, some (some 20), some (some 21), none, none, none, none, none, some (some 22), some (some 23), some (some 24), some (some 25)]), .inr (0, 64, none), .inr (0, 64, none), .inr (0, 6, none), .inr (0, 64, none), .inr (0, 64, none), .inr (0, 1024, none), .inl (2, [some (some 27), none, none, none, some (some 28), some (some 29), some (some 30)]), .inr (0, 6, none), .inr (0, 6, none), .inr (0, 10, none), .inr (1, 6, some none), .inl (6, [none, some (some 32), none, none, none, none]), .inr (0, 120, none), .inl (3, [none]), .inr (2, 4, some (some holdC)), .inl (0, [none, some none, some none, none, none, none, some none]), .inl (0, [none, some none, some none, none, none, none, some none]), .inl (0, [none, some none, some none, none, none, none, some none]), .inl (0, [none, some none, some none, none, none, none, some none]), .inr (3, 4, some (some sheetC)), .inl (5, [none, none, some (some 41)]), .inr (1, 40, some none), .inl (5, [none, none, some (some 43)]), .inr (1, 40, some none), .inl (5, [none, none, some (some 45)]), .inr (1, 40, some none), .inl (5, [none, none, some (some 47)]), .inr (1, 40, some none)]
theorem tx_0 : tabX[0]? = some (.inl (7, [some (some 1), some (some 7), some (some 13), none, some (some 19), some (some 26), some (some 31), some (some 33), some (some 34), some (some 39)])) := rfl
theorem tx_1 : tabX[1]? = some (.inl (1, [none, none, none, some (some 2), some (some 3), some (some 4), some (some 5), some (some 6)])) := rfl
theorem tx_2 : tabX[2]? = some (.inr (0, 10, none)) := rfl
theorem tx_3 : tabX[3]? = some (.inr (0, 10, none)) := rfl
theorem tx_4 : tabX[4]? = some (.inr (0, 10, none)) := rfl
theorem tx_5 : tabX[5]? = some (.inr (0, 10, none)) := rfl
theorem tx_6 : tabX[6]? = some (.inr (1, 6, some none)) := rfl
theorem tx_7 : tabX[7]? = some (.inl (1, [none, none, none, some (some 8), some (some 9), some (some 10), some (some 11), some (some 12)])) := rfl
theorem tx_8 : tabX[8]? = some (.inr (0, 10, none)) := rfl
theorem tx_9 : tabX[9]? = some (.inr (0, 10, none)) := rfl
theorem tx_10 : tabX[10]? = some (.inr (0, 10, none)) := rfl
theorem tx_11 : tabX[11]? = some (.inr (0, 10, none)) := rfl
theorem tx_12 : tabX[12]? = some (.inr (1, 6, some none)) := rfl
theorem tx_13 : tabX[13]? = some (.inl (1, [none, none, none, some (some 14), some (some 15), some (some 16), some (some 17), some (some 18)])) := rfl
theorem tx_14 : tabX[14]? = some (.inr (0, 10, none)) := rfl
theorem tx_15 : tabX[15]? = some (.inr (0, 10, none)) := rfl
theorem tx_16 : tabX[16]? = some (.inr (0, 10, none)) := rfl
theorem tx_17 : tabX[17]? = some (.inr (0, 10, none)) := rfl
theorem tx_18 : tabX[18]? = some (.inr (1, 6, some none)) := rfl
theorem tx_19 : tabX[19]? = some (.inl (4, [none, some (some 20), some (some 21), none, none, none, none, none, some (some 22), some (some 23), some (some 24), some (some 25)])) := rfl
theorem tx_20 : tabX[20]? = some (.inr (0, 64, none)) := rfl
theorem tx_21 : tabX[21]? = some (.inr (0, 64, none)) := rfl
theorem tx_22 : tabX[22]? = some (.inr (0, 6, none)) := rfl
theorem tx_23 : tabX[23]? = some (.inr (0, 64, none)) := rfl
theorem tx_24 : tabX[24]? = some (.inr (0, 64, none)) := rfl
theorem tx_25 : tabX[25]? = some (.inr (0, 1024, none)) := rfl
theorem tx_26 : tabX[26]? = some (.inl (2, [some (some 27), none, none, none, some (some 28), some (some 29), some (some 30)])) := rfl
theorem tx_27 : tabX[27]? = some (.inr (0, 6, none)) := rfl
theorem tx_28 : tabX[28]? = some (.inr (0, 6, none)) := rfl
theorem tx_29 : tabX[29]? = some (.inr (0, 10, none)) := rfl
theorem tx_30 : tabX[30]? = some (.inr (1, 6, some none)) := rfl
theorem tx_31 : tabX[31]? = some (.inl (6, [none, some (some 32), none, none, none, none])) := rfl
theorem tx_32 : tabX[32]? = some (.inr (0, 120, none)) := rfl
theorem tx_33 : tabX[33]? = some (.inl (3, [none])) := rfl
theorem tx_34 : tabX[34]? = some (.inr (2, 4, some (some holdC))) := rfl
theorem tx_35 : tabX[35]? = some (.inl (0, [none, some none, some none, none, none, none, some none])) := rfl
theorem tx_36 : tabX[36]? = some (.inl (0, [none, some none, some none, none, none, none, some none])) := rfl
theorem tx_37 : tabX[37]? = some (.inl (0, [none, some none, some none, none, none, none, some none])) := rfl
theorem tx_38 : tabX[38]? = some (.inl (0, [none, some none, some none, none, none, none, some none])) := rfl
theorem tx_39 : tabX[39]? = some (.inr (3, 4, some (some sheetC))) := rfl
theorem tx_40 : tabX[40]? = some (.inl (5, [none, none, some (some 41)])) := rfl
theorem tx_41 : tabX[41]? = some (.inr (1, 40, some none)) := rfl
theorem tx_42 : tabX[42]? = some (.inl (5, [none, none, some (some 43)])) := rfl
theorem tx_43 : tabX[43]? = some (.inr (1, 40, some none)) := rfl
theorem tx_44 : tabX[44]? = some (.inl (5, [none, none, some (some 45)])) := rfl
theorem tx_45 : tabX[45]? = some (.inr (1, 40, some none)) := rfl
theorem tx_46 : tabX[46]? = some (.inl (5, [none, none, some (some 47)])) := rfl
theorem tx_47 : tabX[47]? = some (.inr (1, 40, some none)) := rfl
def tabM : List Ds := [.inl (8, [none, none, none, some (some 1), some (some 2), some (some 3), some (some 4), some (some 5), none, none, some (some 6), some (some 7), none, none, some (some 8), some (some 9), some (some 10), none, none, none, none, none, some (some 11), some (some 12), some (some 13), some (some 14), some (some 15), some (some 16), some (some 17), none, some (some 18), none, none, none, none, none, some (some 19), some (some 20), some (some 21), some (some 22), some (some 23), some (some 24), some (some 25), none]), .inr (0, 10, none), .inr (0, 10, none), .inr (0, 10, none), .inr (0, 10, none), .inr (1, 6, some none), .inr (1, 42, some none), .inr (0, 6, none), .inr (0, 200, none), .inr (0, 200, none), .inr (0, 200, none), .inr (0, 4, none), .inr (0, 4, none), .inr (0, 4, none), .inr (0, 4, none), .inr (1, 4, some none), .inr (1, 4, some none), .inr (1, 4, some none), .inr (0, 120, none), .inr (0, 4, none), .inr (0, 4, none), .inr (0, 4, none), .inr (1, 160, some none), .inr (0, 6, none), .inr (0, 80, none), .inr (1, 12, some none)]
theorem tm_0 : tabM[0]? = some (.inl (8, [none, none, none, some (some 1), some (some 2), some (some 3), some (some 4), some (some 5), none, none, some (some 6), some (some 7), none, none, some (some 8), some (some 9), some (some 10), none, none, none, none, none, some (some 11), some (some 12), some (some 13), some (some 14), some (some 15), some (some 16), some (some 17), none, some (some 18), none, none, none, none, none, some (some 19), some (some 20), some (some 21), some (some 22), some (some 23), some (some 24), some (some 25), none])) := rfl
theorem tm_1 : tabM[1]? = some (.inr (0, 10, none)) := rfl
theorem tm_2 : tabM[2]? = some (.inr (0, 10, none)) := rfl
theorem tm_3 : tabM[3]? = some (.inr (0, 10, none)) := rfl
theorem tm_4 : tabM[4]? = some (.inr (0, 10, none)) := rfl
theorem tm_5 : tabM[5]? = some (.inr (1, 6, some none)) := rfl
theorem tm_6 : tabM[6]? = some (.inr (1, 42, some none)) := rfl
theorem tm_7 : tabM[7]? = some (.inr (0, 6, none)) := rfl
theorem tm_8 : tabM[8]? = some (.inr (0, 200, none)) := rfl
theorem tm_9 : tabM[9]? = some (.inr (0, 200, none)) := rfl
theorem tm_10 : tabM[10]? = some (.inr (0, 200, none)) := rfl
theorem tm_11 : tabM[11]? = some (.inr (0, 4, none)) := rfl
theorem tm_12 : tabM[12]? = some (.inr (0, 4, none)) := rfl
theorem tm_13 : tabM[13]? = some (.inr (0, 4, none)) := rfl
theorem tm_14 : tabM[14]? = some (.inr (0, 4, none)) := rfl
theorem tm_15 : tabM[15]? = some (.inr (1, 4, some none)) := rfl
theorem tm_16 : tabM[16]? = some (.inr (1, 4, some none)) := rfl
theorem tm_17 : tabM[17]? = some (.inr (1, 4, some none)) := rfl
theorem tm_18 : tabM[18]? = some (.inr (0, 120, none)) := rfl
theorem tm_19 : tabM[19]? = some (.inr (0, 4, none)) := rfl
theorem tm_20 : tabM[20]? = some (.inr (0, 4, none)) := rfl
theorem tm_21 : tabM[21]? = some (.inr (0, 4, none)) := rfl
theorem tm_22 : tabM[22]? = some (.inr (1, 160, some none)) := rfl
theorem tm_23 : tabM[23]? = some (.inr (0, 6, none)) := rfl
theorem tm_24 : tabM[24]? = some (.inr (0, 80, none)) := rfl
theorem tm_25 : tabM[25]? = some (.inr (1, 12, some none)) := rfl
def NetAt (tab : List Ds) (c : Nat) : Prop := tab[c]? = some (.inl (1, [none, none, none, some (some (c + 1)), some (some (c + 2)), some (some (c + 3)), some (some (c + 4)), some (some (c + 5))])) ∧ tab[c + 1]? = some (.inr (0, 10, none)) ∧ tab[c + 2]? = some (.inr (0, 10, none)) ∧ tab[c + 3]? = some (.inr (0, 10, none)) ∧ tab[c + 4]? = some (.inr (0, 10, none)) ∧ tab[c + 5]? = some (.inr (1, 6, some none))
def SheetAt (tab : List Ds) (c : Nat) : Prop := tab[c]? = some (.inl (5, [none, none, some (some (c + 1))])) ∧ tab[c + 1]? = some (.inr (1, 40, some none))
def HoldAt (tab : List Ds) (c : Nat) : Prop := tab[c]? = some (.inl (0, [none, some none, some none, none, none, none, some none]))
theorem net_1 : NetAt tabX 1 := ⟨rfl, rfl, rfl, rfl, rfl, rfl⟩
theorem net_7 : NetAt tabX 7 := ⟨rfl, rfl, rfl, rfl, rfl, rfl⟩
theorem net_13 : NetAt tabX 13 := ⟨rfl, rfl, rfl, rfl, rfl, rfl⟩
theorem hold_at {i : Int32} (h : inb i 4) : HoldAt tabX (holdC i.toNatClampNeg) := by
  have h2 : i.toNatClampNeg < 4 := Nat.not_le.mp fun q => h (Or.inr q)
  generalize i.toNatClampNeg = j at h2
  rcases (show j = 0 ∨ j = 1 ∨ j = 2 ∨ j = 3 by omega) with rfl | rfl | rfl | rfl <;> rfl
theorem sheet_at {i : Int32} (h : inb i 4) : SheetAt tabX (sheetC i.toNatClampNeg) := by
  have h2 : i.toNatClampNeg < 4 := Nat.not_le.mp fun q => h (Or.inr q)
  generalize i.toNatClampNeg = j at h2
  rcases (show j = 0 ∨ j = 1 ∨ j = 2 ∨ j = 3 by omega) with rfl | rfl | rfl | rfl <;> exact ⟨rfl, rfl⟩
theorem so_1 {α β : Type} {a c : α} {b d : β} (h : some (a, b) = some (c, d)) : a = c := congrArg Prod.fst (Option.some.inj h)
theorem so_2 {α β : Type} {a c : α} {b d : β} (h : some (a, b) = some (c, d)) : b = d := congrArg Prod.snd (Option.some.inj h)
theorem ne_toInt {x v : Int32} {k : Int} (h : ¬ x = v) (hk : v.toInt = k) : x.toInt ≠ k := fun e => h (Int32.toInt_inj.mp (e.trans hk.symm))
abbrev cpOk (sp dp n : Int32) (n0 n1 : Nat) : Prop := ¬ sp < 0 ∧ ¬ dp < 0 ∧ ¬ n < 0 ∧ sp.toNatClampNeg + n.toNatClampNeg ≤ n0 ∧ dp.toNatClampNeg + n.toNatClampNeg ≤ n1
section COPY
variable {p : Program} {l : Launch} {e : Env} {R : Room} {s : State} {m : MethodId} {args : Array Value} {below : List Frame} {meth : Method} {c : Code} {D : va_G} {ac : Nat → ClassId} {A : Nat → Prop} {nL : Nat} {tab : List Ds} {ad : Nat → Nat} {rest : va_W} {Q : State → Prop} {L : List (Nat × Value)} {S : List Value} {M : Mem} {cc : ByteArray} {own : String} {ret : Option FieldType}
theorem a_L {pc : Nat} {L' : List (Nat × Value)} (h : L = L') (k : At p l e R s m args below meth c D ac A nL tab ad rest Q pc L' S M) : At p l e R s m args below meth c D ac A nL tab ad rest Q pc L S M := h ▸ k
theorem cp_nat : Cond.native arraycopyName ∈ gt := gt_of (List.mem_of_getElem? (i := 450) (by decide +kernel)) (by decide +kernel)
theorem cp_sta : Cond.static arraycopyName ∈ gt := gt_of (List.mem_of_getElem? (i := 449) (by decide +kernel)) (by decide +kernel)
theorem cp_ini : Cond.initialized "java/lang/System" ∈ gt := gt_of (List.mem_of_getElem? (i := 14) (by decide +kernel)) (by decide +kernel)
theorem ml_X2_67 : Cond.methodLink RX2 67 arraycopyName ∈ gt := gt_of (List.mem_of_getElem? (i := 448) (by decide +kernel)) (by decide +kernel)
theorem ml_X1_53 : Cond.methodLink RX1 53 arraycopyName ∈ gt := gt_of (List.mem_of_getElem? (i := 733) (by decide +kernel)) (by decide +kernel)
theorem ml_X7_342 : Cond.methodLink RX7 342 arraycopyName ∈ gt := gt_of (List.mem_of_getElem? (i := 891) (by decide +kernel)) (by decide +kernel)
theorem a_copyI {pc idx k0 k1 n0 n1 : Nat} {sp dp n : Int32} {ρ : Type} {o : ρ} {K : Mem → Option ρ} (C : Cx p s m args meth c cc nL own ret D ac ad A) (hd : decode cc pc = .ok (.invokestatic idx, 3)) (hlk : Cond.methodLink own idx arraycopyName ∈ gt) (ht0 : tab[k0]? = some (.inr (0, n0, none))) (ht1 : tab[k1]? = some (.inr (0, n1, none))) (hfr : 1 ≤ R.frames) (hlo : (S.map fun v => v.category).sum + (nativeFrameWords "java/lang/System" "arraycopy" 5 + 11) ≤ R.locals)
    (hf : ck (cpOk sp dp n n0 n1) (nm (putI M k1 (va_cpy (M.1 k0) (M.1 k1) sp.toNatClampNeg dp.toNatClampNeg n.toNatClampNeg)) K) = some o) (k : ∀ M', K M' = some o → At p l e R s m args below meth c D ac A nL tab ad rest Q (pc + 3) L S M') : At p l e R s m args below meth c D ac A nL tab ad rest Q pc L (.int n :: .int dp :: .ref (ad k1) :: .int sp :: .ref (ad k0) :: S) M := fun H locs ls hP hD hS hl => by
  obtain ⟨⟨h1, h2, h3, h4, h5⟩, h6⟩ := ck_some hf
  refine va_copyi C.1 C.2.1 (C.2.2.1.trans hl.1.symm) C.2.2.2.1 (C.2.2.2.2.1 _ hlk) (C.2.2.2.2.1 _ cp_nat) (C.2.2.2.2.1 _ cp_sta) (C.2.2.2.2.1 _ cp_ini) C.2.2.2.2.2.1.1.1 hP hD hS k0 k1 0 0 (wl_at ht0) (wl_at ht1) rfl rfl rfl h1 h2 h3 h4 h5 (fun _ _ => rfl) hfr hlo hd (fun H1 locs1 hP1 hD1 hS1 => ?_)
  rw [wl_putI ht1] at hP1 hD1
  exact k _ h6 H1 locs1 ls hP1 hD1 hS1 hl
theorem a_copyJ {pc idx k0 k1 n0 n1 : Nat} {sp dp n : Int32} {ρ : Type} {o : ρ} {K : Mem → Option ρ} (C : Cx p s m args meth c cc nL own ret D ac ad A) (hd : decode cc pc = .ok (.invokestatic idx, 3)) (hlk : Cond.methodLink own idx arraycopyName ∈ gt) (ht0 : tab[k0]? = some (.inr (1, n0, some none))) (ht1 : tab[k1]? = some (.inr (1, n1, some none))) (hfr : 1 ≤ R.frames) (hlo : (S.map fun v => v.category).sum + (nativeFrameWords "java/lang/System" "arraycopy" 5 + 11) ≤ R.locals)
    (hf : ck (cpOk sp dp n n0 n1) (nm (putJ M k1 (va_cpy (M.2 k0) (M.2 k1) sp.toNatClampNeg dp.toNatClampNeg n.toNatClampNeg)) K) = some o) (k : ∀ M', K M' = some o → At p l e R s m args below meth c D ac A nL tab ad rest Q (pc + 3) L S M') : At p l e R s m args below meth c D ac A nL tab ad rest Q pc L (.int n :: .int dp :: .ref (ad k1) :: .int sp :: .ref (ad k0) :: S) M := fun H locs ls hP hD hS hl => by
  obtain ⟨⟨h1, h2, h3, h4, h5⟩, h6⟩ := ck_some hf
  refine va_copyl C.1 C.2.1 (C.2.2.1.trans hl.1.symm) C.2.2.2.1 (C.2.2.2.2.1 _ hlk) (C.2.2.2.2.1 _ cp_nat) (C.2.2.2.2.1 _ cp_sta) (C.2.2.2.2.1 _ cp_ini) C.2.2.2.2.2.1.1.1 hP hD hS k0 k1 1 1 (wl_at ht0) (wl_at ht1) rfl rfl rfl h1 h2 h3 h4 h5 (fun _ _ => rfl) hfr hlo hd (fun H1 locs1 hP1 hD1 hS1 => ?_)
  rw [wl_putJ ht1] at hP1 hD1
  exact k _ h6 H1 locs1 ls hP1 hD1 hS1 hl
end COPY
