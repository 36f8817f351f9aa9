theorem dJ0_length_8abf5_0 : decode cJ0_length_8abf5 0 = .ok (.aload_n 0, 1) := by decide +kernel
theorem dJ0_length_8abf5_1 : decode cJ0_length_8abf5 1 = .ok (.getfield 9, 3) := by decide +kernel
theorem dJ0_length_8abf5_4 : decode cJ0_length_8abf5 4 = .ok (.arraylength, 1) := by decide +kernel
theorem dJ0_length_8abf5_5 : decode cJ0_length_8abf5 5 = .ok (.aload_n 0, 1) := by decide +kernel
theorem dJ0_length_8abf5_6 : decode cJ0_length_8abf5 6 = .ok (.invokevirtual 335, 3) := by decide +kernel
theorem dJ0_length_8abf5_9 : decode cJ0_length_8abf5 9 = .ok (.ishr, 1) := by decide +kernel
theorem dJ0_length_8abf5_10 : decode cJ0_length_8abf5 10 = .ok (.ireturn, 1) := by decide +kernel
theorem dJ0_coder_7d493_0 : decode cJ0_coder_7d493 0 = .ok (.getstatic 38, 3) := by decide +kernel
theorem dJ0_coder_7d493_3 : decode cJ0_coder_7d493 3 = .ok (.ifCond .eq 10, 3) := by decide +kernel
theorem dJ0_coder_7d493_6 : decode cJ0_coder_7d493 6 = .ok (.aload_n 0, 1) := by decide +kernel
theorem dJ0_coder_7d493_7 : decode cJ0_coder_7d493 7 = .ok (.getfield 15, 3) := by decide +kernel
theorem dJ0_coder_7d493_10 : decode cJ0_coder_7d493 10 = .ok (.goto 4, 3) := by decide +kernel
theorem dJ0_coder_7d493_13 : decode cJ0_coder_7d493 13 = .ok (.iconst 1, 1) := by decide +kernel
theorem dJ0_coder_7d493_14 : decode cJ0_coder_7d493 14 = .ok (.ireturn, 1) := by decide +kernel
theorem dJ0_isLatin1_aae02_0 : decode cJ0_isLatin1_aae02 0 = .ok (.getstatic 38, 3) := by decide +kernel
theorem dJ0_isLatin1_aae02_3 : decode cJ0_isLatin1_aae02 3 = .ok (.ifCond .eq 14, 3) := by decide +kernel
theorem dJ0_isLatin1_aae02_6 : decode cJ0_isLatin1_aae02 6 = .ok (.aload_n 0, 1) := by decide +kernel
theorem dJ0_isLatin1_aae02_7 : decode cJ0_isLatin1_aae02 7 = .ok (.getfield 15, 3) := by decide +kernel
theorem dJ0_isLatin1_aae02_10 : decode cJ0_isLatin1_aae02 10 = .ok (.ifCond .ne 7, 3) := by decide +kernel
theorem dJ0_isLatin1_aae02_13 : decode cJ0_isLatin1_aae02 13 = .ok (.iconst 1, 1) := by decide +kernel
theorem dJ0_isLatin1_aae02_14 : decode cJ0_isLatin1_aae02 14 = .ok (.goto 4, 3) := by decide +kernel
theorem dJ0_isLatin1_aae02_17 : decode cJ0_isLatin1_aae02 17 = .ok (.iconst 0, 1) := by decide +kernel
theorem dJ0_isLatin1_aae02_18 : decode cJ0_isLatin1_aae02 18 = .ok (.ireturn, 1) := by decide +kernel
theorem dJ0_charAt_5068e_0 : decode cJ0_charAt_5068e 0 = .ok (.aload_n 0, 1) := by decide +kernel
theorem dJ0_charAt_5068e_1 : decode cJ0_charAt_5068e 1 = .ok (.invokevirtual 492, 3) := by decide +kernel
theorem dJ0_charAt_5068e_4 : decode cJ0_charAt_5068e 4 = .ok (.ifCond .eq 12, 3) := by decide +kernel
theorem dJ0_charAt_5068e_7 : decode cJ0_charAt_5068e 7 = .ok (.aload_n 0, 1) := by decide +kernel
theorem dJ0_charAt_5068e_8 : decode cJ0_charAt_5068e 8 = .ok (.getfield 9, 3) := by decide +kernel
theorem dJ0_charAt_5068e_11 : decode cJ0_charAt_5068e 11 = .ok (.iload_n 1, 1) := by decide +kernel
theorem dJ0_charAt_5068e_12 : decode cJ0_charAt_5068e 12 = .ok (.invokestatic 495, 3) := by decide +kernel
theorem dJ0_charAt_5068e_15 : decode cJ0_charAt_5068e 15 = .ok (.ireturn, 1) := by decide +kernel
theorem dJ0_charAt_5068e_16 : decode cJ0_charAt_5068e 16 = .ok (.aload_n 0, 1) := by decide +kernel
theorem dJ0_charAt_5068e_17 : decode cJ0_charAt_5068e 17 = .ok (.getfield 9, 3) := by decide +kernel
theorem dJ0_charAt_5068e_20 : decode cJ0_charAt_5068e 20 = .ok (.iload_n 1, 1) := by decide +kernel
theorem dJ0_charAt_5068e_21 : decode cJ0_charAt_5068e 21 = .ok (.invokestatic 498, 3) := by decide +kernel
theorem dJ0_charAt_5068e_24 : decode cJ0_charAt_5068e 24 = .ok (.ireturn, 1) := by decide +kernel
theorem dJ1_charAt_3b067_0 : decode cJ1_charAt_3b067 0 = .ok (.iload_n 1, 1) := by decide +kernel
theorem dJ1_charAt_3b067_1 : decode cJ1_charAt_3b067 1 = .ok (.aload_n 0, 1) := by decide +kernel
theorem dJ1_charAt_3b067_2 : decode cJ1_charAt_3b067 2 = .ok (.arraylength, 1) := by decide +kernel
theorem dJ1_charAt_3b067_3 : decode cJ1_charAt_3b067 3 = .ok (.invokestatic 9, 3) := by decide +kernel
theorem dJ1_charAt_3b067_6 : decode cJ1_charAt_3b067 6 = .ok (.aload_n 0, 1) := by decide +kernel
theorem dJ1_charAt_3b067_7 : decode cJ1_charAt_3b067 7 = .ok (.iload_n 1, 1) := by decide +kernel
theorem dJ1_charAt_3b067_8 : decode cJ1_charAt_3b067 8 = .ok (.baload, 1) := by decide +kernel
theorem dJ1_charAt_3b067_9 : decode cJ1_charAt_3b067 9 = .ok (.sipush 255, 3) := by decide +kernel
theorem dJ1_charAt_3b067_12 : decode cJ1_charAt_3b067 12 = .ok (.iand, 1) := by decide +kernel
theorem dJ1_charAt_3b067_13 : decode cJ1_charAt_3b067 13 = .ok (.i2c, 1) := by decide +kernel
theorem dJ1_charAt_3b067_14 : decode cJ1_charAt_3b067 14 = .ok (.ireturn, 1) := by decide +kernel
theorem dJ0_checkIndex_df160_0 : decode cJ0_checkIndex_df160 0 = .ok (.iload_n 0, 1) := by decide +kernel
theorem dJ0_checkIndex_df160_1 : decode cJ0_checkIndex_df160 1 = .ok (.iload_n 1, 1) := by decide +kernel
theorem dJ0_checkIndex_df160_2 : decode cJ0_checkIndex_df160 2 = .ok (.getstatic 1053, 3) := by decide +kernel
theorem dJ0_checkIndex_df160_5 : decode cJ0_checkIndex_df160 5 = .ok (.invokestatic 1059, 3) := by decide +kernel
theorem dJ0_checkIndex_df160_8 : decode cJ0_checkIndex_df160 8 = .ok (.pop, 1) := by decide +kernel
theorem dJ0_checkIndex_df160_9 : decode cJ0_checkIndex_df160 9 = .ok (.return_, 1) := by decide +kernel
theorem dJ3_checkIndex_8e157_0 : decode cJ3_checkIndex_8e157 0 = .ok (.iload_n 0, 1) := by decide +kernel
theorem dJ3_checkIndex_8e157_1 : decode cJ3_checkIndex_8e157 1 = .ok (.ifCond .lt 8, 3) := by decide +kernel
theorem dJ3_checkIndex_8e157_4 : decode cJ3_checkIndex_8e157 4 = .ok (.iload_n 0, 1) := by decide +kernel
theorem dJ3_checkIndex_8e157_5 : decode cJ3_checkIndex_8e157 5 = .ok (.iload_n 1, 1) := by decide +kernel
theorem dJ3_checkIndex_8e157_6 : decode cJ3_checkIndex_8e157 6 = .ok (.if_icmp .lt 10, 3) := by decide +kernel
theorem dJ3_checkIndex_8e157_9 : decode cJ3_checkIndex_8e157 9 = .ok (.aload_n 2, 1) := by decide +kernel
theorem dJ3_checkIndex_8e157_10 : decode cJ3_checkIndex_8e157 10 = .ok (.iload_n 0, 1) := by decide +kernel
theorem dJ3_checkIndex_8e157_11 : decode cJ3_checkIndex_8e157 11 = .ok (.iload_n 1, 1) := by decide +kernel
theorem dJ3_checkIndex_8e157_12 : decode cJ3_checkIndex_8e157 12 = .ok (.invokestatic 95, 3) := by decide +kernel
theorem dJ3_checkIndex_8e157_15 : decode cJ3_checkIndex_8e157 15 = .ok (.athrow, 1) := by decide +kernel
theorem dJ3_checkIndex_8e157_16 : decode cJ3_checkIndex_8e157 16 = .ok (.iload_n 0, 1) := by decide +kernel
theorem dJ3_checkIndex_8e157_17 : decode cJ3_checkIndex_8e157 17 = .ok (.ireturn, 1) := by decide +kernel
theorem fs_val : Cond.fieldLink RJ0 9 "java/lang/String" "value" "[B" ∈ gt := gt_of (List.mem_of_getElem? (i := 1441) (by decide +kernel)) (by decide +kernel)
theorem fs_cod : Cond.fieldLink RJ0 15 "java/lang/String" "coder" "B" ∈ gt := gt_of (List.mem_of_getElem? (i := 1442) (by decide +kernel)) (by decide +kernel)
theorem fs_com : Cond.fieldLink RJ0 38 "java/lang/String" "COMPACT_STRINGS" "Z" ∈ gt := gt_of (List.mem_of_getElem? (i := 767) (by decide +kernel)) (by decide +kernel)
theorem fs_sio : Cond.fieldLink RJ0 1053 "jdk/internal/util/Preconditions" "SIOOBE_FORMATTER" "Ljava/util/function/BiFunction;" ∈ gt := gt_of (List.mem_of_getElem? (i := 783) (by decide +kernel)) (by decide +kernel)
def schr (w j : Nat) : Int32 := (((sByt.getD w []).getD j 0 &&& 255).toUInt32 % 65536).toInt32
section STR
variable {p : Program} {l : Launch} {e : Env} {R : Room} {s : State} {m : MethodId} {args : Array Value} {below : List Frame} {meth : Method} {c : Code} {D : va_G} {ac : Nat → ClassId} {A : Nat → Prop} {nL : Nat} {tab : List Ds} {ad : Nat → Nat} {rest : va_W} {Q : State → Prop} {L : List (Nat × Value)} {S S0 : List Value} {M : Mem} {cc : ByteArray} {own : String} {ret : Option FieldType}
theorem a_ldcS {pc idx i : Nat} (C : Cx p s m args meth c cc nL RX6 ret D ac ad A) (hd : decode cc pc = .ok (.ldc idx, 2)) (hi : i < 9) (hx : sIdx.getD i 0 = idx) (k : At p l e R s m args below meth c D ac A nL tab ad rest Q (pc + 2) L (.ref (ad (1000 + i)) :: S) M) : At p l e R s m args below meth c D ac A nL tab ad rest Q pc L S M := fun H locs ls hP hD hS hl => va_ldcS C.1 C.2.1 C.2.2.2.1 (tx := sTx.getD i "") (by have h := C.2.2.2.2.2.1.2.2.1 i hi; rw [hx] at h; exact h) hd (k H locs ls hP hD hS hl)
theorem a_sval {pc i : Nat} (C : Cx p s m args meth c cc nL RJ0 ret D ac ad A) (hd : decode cc pc = .ok (.getfield 9, 3)) (hi : i < 9) (k : At p l e R s m args below meth c D ac A nL tab ad rest Q (pc + 3) L (.ref (ad (2000 + i)) :: S) M) : At p l e R s m args below meth c D ac A nL tab ad rest Q pc L (.ref (ad (1000 + i)) :: S) M := fun H locs ls hP hD hS hl => vk_getf C.1 C.2.1 (C.2.2.2.2.2.1.2.1.1 i hi).2.2.1 hS C.2.2.2.1 (C.2.2.2.2.1 _ fs_val) (fun _ h => h) hd (k H locs ls hP hD hS hl)
theorem a_scod {pc i : Nat} (C : Cx p s m args meth c cc nL RJ0 ret D ac ad A) (hd : decode cc pc = .ok (.getfield 15, 3)) (hi : i < 9) (k : At p l e R s m args below meth c D ac A nL tab ad rest Q (pc + 3) L (.int 0 :: S) M) : At p l e R s m args below meth c D ac A nL tab ad rest Q pc L (.ref (ad (1000 + i)) :: S) M := fun H locs ls hP hD hS hl => vk_getf C.1 C.2.1 (C.2.2.2.2.2.1.2.1.1 i hi).2.1 hS C.2.2.2.1 (C.2.2.2.2.1 _ fs_cod) (fun _ h => h) hd (k H locs ls hP hD hS hl)
theorem a_scom {pc : Nat} (C : Cx p s m args meth c cc nL RJ0 ret D ac ad A) (hd : decode cc pc = .ok (.getstatic 38, 3)) (k : At p l e R s m args below meth c D ac A nL tab ad rest Q (pc + 3) L (.int 1 :: S) M) : At p l e R s m args below meth c D ac A nL tab ad rest Q pc L S M := fun H locs ls hP hD hS hl => va_gets C.1 C.2.1 C.2.2.2.2.2.1.2.2.2.1 hS C.2.2.2.1 (C.2.2.2.2.1 _ fs_com) (fun _ h => h) hd (k H locs ls hP hD hS hl)
theorem a_ssio {pc : Nat} (C : Cx p s m args meth c cc nL RJ0 ret D ac ad A) (hd : decode cc pc = .ok (.getstatic 1053, 3)) (k : ∀ v : Value, v.category = 1 → At p l e R s m args below meth c D ac A nL tab ad rest Q (pc + 3) L (v :: S) M) : At p l e R s m args below meth c D ac A nL tab ad rest Q pc L S M := fun H locs ls hP hD hS hl => by
  rcases C.2.2.2.2.2.1.2.2.2.2 with h | ⟨t, h⟩
  · exact va_gets C.1 C.2.1 h hS C.2.2.2.1 (C.2.2.2.2.1 _ fs_sio) (fun _ h => h) hd (k .null rfl H locs ls hP hD hS hl)
  · exact va_gets C.1 C.2.1 h hS C.2.2.2.1 (C.2.2.2.2.1 _ fs_sio) (fun _ h => h) hd (k (.ref t) rfl H locs ls hP hD hS hl)
theorem a_sbl {pc i : Nat} {j : Int32} (C : Cx p s m args meth c cc nL own ret D ac ad A) (hd : decode cc pc = .ok (.baload, 1)) (hi : i < 9) (hj : inb j (sLen.getD i 0)) (k : At p l e R s m args below meth c D ac A nL tab ad rest Q (pc + 1) L (.int ((sByt.getD i []).getD j.toNatClampNeg 0) :: S) M) : At p l e R s m args below meth c D ac A nL tab ad rest Q pc L (.int j :: .ref (ad (2000 + i)) :: S) M := fun H locs ls hP hD hS hl => va_tb C.1 C.2.1 (C.2.2.2.2.2.1.2.1.1 i hi).2.2.2 hS hj rfl hd (k H locs ls hP hD hS hl)
theorem a_sbn {pc i : Nat} (C : Cx p s m args meth c cc nL own ret D ac ad A) (hd : decode cc pc = .ok (.arraylength, 1)) (hi : i < 9) (k : At p l e R s m args below meth c D ac A nL tab ad rest Q (pc + 1) L (.int (Int32.ofNat (sLen.getD i 0)) :: S) M) : At p l e R s m args below meth c D ac A nL tab ad rest Q pc L (.ref (ad (2000 + i)) :: S) M := fun H locs ls hP hD hS hl => va_tlen C.1 C.2.1 (C.2.2.2.2.2.1.2.1.1 i hi).2.2.2 hS rfl hd (k H locs ls hP hD hS hl)
theorem a_i2c {pc : Nat} {x : Int32} (C : Cx p s m args meth c cc nL own ret D ac ad A) (hd : decode cc pc = .ok (.i2c, 1)) (k : At p l e R s m args below meth c D ac A nL tab ad rest Q (pc + 1) L (.int (x.toUInt32 % 65536).toInt32 :: S) M) : At p l e R s m args below meth c D ac A nL tab ad rest Q pc L (.int x :: S) M := fun H locs ls hP hD hS hl => lv_i2c C.1 C.2.1 hd rfl (k H locs ls hP hD hS hl)
theorem a_nret {pc : Nat} {r : Int32} {ty : FieldType} (C : Cx p s m args meth c cc nL own (some ty) D ac ad A) (hd : decode cc pc = .ok (.ireturn, 1)) (hn : narrow ty (.int r) = .int r) : At p l e R s m args below meth c D ac A nL tab ad rest (QI D ac A tab ad rest below args s r M) pc L [.int r] M := fun H locs ls hP hD hS hl => W.zret C.1 C.2.1 C.2.2.2.2.2.2.1 hn (fun t ht hW => ⟨⟨r, (), rfl, rfl, by rw [ht]; exact hP, KS.warm hW hS ht C.2.2.2.2.2.1, hD⟩, hS.F ht⟩) hS.2.2 hd C.2.2.2.2.2.2.2
variable {pc idx n mL d d' : Nat} {y : MethodName} {cd : ByteArray} {rt : FieldType} {As : List Value} {r : Int32}
/-- a call on one of the nine words, whose answer is known -/
theorem a_callW {i : Nat} (C : Cx p s m args meth c cc nL own ret D ac ad A) (hd : decode cc pc = .ok (.invokevirtual idx, 3)) (hlk : Cond.methodLink own idx y ∈ gt) (hm : Mc y cd mL (some rt) n) (hv : Mv y) (hi : i < 9) (hcl : y.cls = "java/lang/String") (As : List Value) (hn : As.length = n) (hdd : d' < d) (hmL : mL ≤ 45) (hst : S0 = As.reverse ++ .ref (ad (1000 + i)) :: S) (hW : (S.map fun v => v.category).sum ≤ 8)
    (hM : CtI l D ac A tab ad rest y cd mL rt d' (.ref (ad (1000 + i)) :: As) M r M) (k : At p l e (rmD d) s m args below meth c D ac A nL tab ad rest Q (pc + 3) L (.int r :: S) M) : At p l e (rmD d) s m args below meth c D ac A nL tab ad rest Q pc L S0 M := fun H locs ls hP hD hS hl => by
  subst hst
  refine va_calli (va_runV (As := As) (rest := S) (C := y.cls) (n := n) ⟨C.1, C.2.1, C.2.2.1, C.2.2.2.1, C.2.2.2.2.1⟩ hM ⟨callB_of n C.2.2.2.2.1 (k_goodc hm) rfl rfl rfl (C.2.2.2.2.1 _ hm.2.1) (C.2.2.2.2.1 _ hlk) hm.2.2 (k_room hdd hmL), C.2.2.2.2.1 _ hv.1, C.2.2.2.2.1 _ hv.2⟩ ⟨Wd_blind, by rw [hcl]; exact vk_recv (i := i) (adK := fun i => ad (1000 + i)) (adV := fun i => ad (2000 + i)) C.2.2.2.2.2.1.2.1 hi hS, fun U hU hWm => ⟨rfl, by rw [hU]; exact hP, KS.warm hWm hS hU C.2.2.2.2.2.1, hD⟩⟩ rfl hn hl.1 rfl (lv_room hW) hd ⟨Nat.zero_le _, Nat.zero_le _⟩) hS (fun q _ h => h) (fun q h => h) (fun r1 u t H1 locs1 ht' hvm hp hB hz hk hS1 => ?_)
  rw [hp]
  exact k H1 locs1 ls (by rw [← ht']; exact hB.1) hB.2.2 hS1 hl
/-- a static call whose answer is known -/
theorem a_callKS (C : Cx p s m args meth c cc nL own ret D ac ad A) (hd : decode cc pc = .ok (.invokestatic idx, 3)) (hlk : Cond.methodLink own idx y ∈ gt) (hm : Mc y cd mL (some rt) n) (hv : Cond.static y ∈ gt) (As : List Value) (hn : As.length = n) (hdd : d' < d) (hmL : mL ≤ 45) (hst : S0 = As.reverse ++ S) (hW : (S.map fun v => v.category).sum ≤ 8)
    (hM : CtI l D ac A tab ad rest y cd mL rt d' As M r M) (k : At p l e (rmD d) s m args below meth c D ac A nL tab ad rest Q (pc + 3) L (.int r :: S) M) : At p l e (rmD d) s m args below meth c D ac A nL tab ad rest Q pc L S0 M := fun H locs ls hP hD hS hl => by
  refine va_calli (k_runS C hd hlk hm hv hn hdd hmL hst hW hM hP hD hS hl) hS (fun q _ h => h) (fun q h => h) (fun r1 u t H1 locs1 ht' hvm hp hB hz hk hS1 => ?_)
  rw [hp]
  exact k H1 locs1 ls (by rw [← ht']; exact hB.1) hB.2.2 hS1 hl
theorem a_callKV (C : Cx p s m args meth c cc nL own ret D ac ad A) (hd : decode cc pc = .ok (.invokestatic idx, 3)) (hlk : Cond.methodLink own idx y ∈ gt) (hm : Mc y cd mL none n) (hv : Cond.static y ∈ gt) (As : List Value) (hn : As.length = n) (hdd : d' < d) (hmL : mL ≤ 45) (hst : S0 = As.reverse ++ S) (hW : (S.map fun v => v.category).sum ≤ 8)
    (hM : CtV l D ac A tab ad rest y cd mL d' As M M) (k : At p l e (rmD d) s m args below meth c D ac A nL tab ad rest Q (pc + 3) L S M) : At p l e (rmD d) s m args below meth c D ac A nL tab ad rest Q pc L S0 M := fun H locs ls hP hD hS hl => by
  refine va_callv (k_runS C hd hlk hm hv hn hdd hmL hst hW hM hP hD hS hl) hS (fun q _ h => h) (fun q h => h) (fun u t H1 locs1 ht' hvm hp hB hz hk hS1 => ?_)
  exact k H1 locs1 ls (by rw [← ht']; exact hB.1) hB.2.2 hS1 hl
end STR
section STRC
variable {l : Launch} {D : va_G} {ac : Nat → ClassId} {A : Nat → Prop} {tab : List Ds} {ad : Nat → Nat} {rest : va_W} {M : Mem}
theorem c_coder {w : Nat} (hw : w < 9) : CtI l D ac A tab ad rest yJ0_coder_7d493 cJ0_coder_7d493 1 .byte 1 [.ref (ad (1000 + w))] M 0 M := by
  refine ct_ofI (own := RJ0) (by decide +kernel) rfl (Nat.le_of_ble_eq_true rfl) ?_
  intro p e s m args below meth c C
  refine a_L (L' := [(0, .ref (ad (1000 + w)))]) rfl ?_
  refine a_scom (pc := 0) C dJ0_coder_7d493_0 ?_
  refine a_if_eq (pc := 3) (ρ := Unit) (o := ()) (X := none) (Y := some ()) 13 C dJ0_coder_7d493_3 (by decide) rfl (fun h => by cases h) (fun _ => ?_)
  refine a_aload_n (pc := 6) C dJ0_coder_7d493_6 0 rfl ?_
  refine a_scod (pc := 7) C dJ0_coder_7d493_7 hw ?_
  refine a_goto (pc := 10) 14 C dJ0_coder_7d493_10 (by decide) ?_
  exact a_nret (pc := 14) C dJ0_coder_7d493_14 (by decide)
theorem c_isLatin1 {w : Nat} (hw : w < 9) : CtI l D ac A tab ad rest yJ0_isLatin1_aae02 cJ0_isLatin1_aae02 1 .boolean 1 [.ref (ad (1000 + w))] M 1 M := by
  refine ct_ofI (own := RJ0) (by decide +kernel) rfl (Nat.le_of_ble_eq_true rfl) ?_
  intro p e s m args below meth c C
  refine a_L (L' := [(0, .ref (ad (1000 + w)))]) rfl ?_
  refine a_scom (pc := 0) C dJ0_isLatin1_aae02_0 ?_
  refine a_if_eq (pc := 3) (ρ := Unit) (o := ()) (X := none) (Y := some ()) 17 C dJ0_isLatin1_aae02_3 (by decide) rfl (fun h => by cases h) (fun _ => ?_)
  refine a_aload_n (pc := 6) C dJ0_isLatin1_aae02_6 0 rfl ?_
  refine a_scod (pc := 7) C dJ0_isLatin1_aae02_7 hw ?_
  refine a_if_ne (pc := 10) (ρ := Unit) (o := ()) (X := none) (Y := some ()) 17 C dJ0_isLatin1_aae02_10 (by decide) rfl (fun h => by cases h) (fun _ => ?_)
  refine a_iconst (pc := 13) (v := 1) C dJ0_isLatin1_aae02_13 (by decide) ?_
  refine a_goto (pc := 14) 18 C dJ0_isLatin1_aae02_14 (by decide) ?_
  exact a_nret (pc := 18) C dJ0_isLatin1_aae02_18 (by decide)
theorem c_slen {w : Nat} (hw : w < 9) : CtI l D ac A tab ad rest yJ0_length_8abf5 cJ0_length_8abf5 1 .int 2 [.ref (ad (1000 + w))] M (Int32.ofNat (sLen.getD w 0)) M := by
  refine ct_ofI (own := RJ0) (by decide +kernel) rfl (Nat.le_of_ble_eq_true rfl) ?_
  intro p e s m args below meth c C
  refine a_L (L' := [(0, .ref (ad (1000 + w)))]) rfl ?_
  refine a_aload_n (pc := 0) C dJ0_length_8abf5_0 0 rfl ?_
  refine a_sval (pc := 1) C dJ0_length_8abf5_1 hw ?_
  refine a_sbn (pc := 4) C dJ0_length_8abf5_4 hw ?_
  refine a_aload_n (pc := 5) C dJ0_length_8abf5_5 0 rfl ?_
  refine a_callW (pc := 6) (d' := 1) C dJ0_length_8abf5_6 ml_J0_335 mc_J0_coder_7d493 mv_J0_coder_7d493 hw rfl [] rfl (Nat.le_of_ble_eq_true rfl) (Nat.le_of_ble_eq_true rfl) rfl (Nat.le_of_ble_eq_true rfl) (c_coder hw) ?_
  refine a_ishr (pc := 9) C dJ0_length_8abf5_9 ?_
  have h0 : (Int32.ofNat (sLen.getD w 0)) >>> ((0 : Int32) &&& 31) = Int32.ofNat (sLen.getD w 0) := by
    rcases (show w = 0 ∨ w = 1 ∨ w = 2 ∨ w = 3 ∨ w = 4 ∨ w = 5 ∨ w = 6 ∨ w = 7 ∨ w = 8 by omega) with rfl | rfl | rfl | rfl | rfl | rfl | rfl | rfl | rfl <;> decide
  exact a_iret (pc := 10) C dJ0_length_8abf5_10 h0 rfl
theorem c_pchk {i k : Int32} {v : Value} (hv : v.category = 1) (h1 : ¬ i < 0) (h2 : i < k) : CtI l D ac A tab ad rest yJ3_checkIndex_8e157 cJ3_checkIndex_8e157 3 .int 1 [.int i, .int k, v] M i M := by
  refine ct_ofI (own := RJ3) (by decide +kernel) rfl ?_ ?_
  · cases v <;> first | exact Nat.le_of_ble_eq_true rfl | exact absurd hv (by simp [Value.category])
  intro p e s m args below meth c C
  refine a_L (L' := [(0, .int i), (1, .int k), (2, v)]) rfl ?_
  refine a_iload_n (pc := 0) C dJ3_checkIndex_8e157_0 0 rfl ?_
  refine a_if_lt (pc := 1) (ρ := Unit) (o := ()) (X := none) (Y := some ()) 9 C dJ3_checkIndex_8e157_1 (by decide) (if_neg h1) (fun h => by cases h) (fun _ => ?_)
  refine a_iload_n (pc := 4) C dJ3_checkIndex_8e157_4 0 rfl ?_
  refine a_iload_n (pc := 5) C dJ3_checkIndex_8e157_5 1 rfl ?_
  refine a_icmp_lt (pc := 6) (ρ := Unit) (o := ()) (X := some ()) (Y := none) 16 C dJ3_checkIndex_8e157_6 (by decide) (if_pos h2) (fun _ => ?_) (fun h => by cases h)
  refine a_iload_n (pc := 16) C dJ3_checkIndex_8e157_16 0 rfl ?_
  exact a_iret (pc := 17) C dJ3_checkIndex_8e157_17 rfl rfl
theorem c_schk {i k : Int32} (h1 : ¬ i < 0) (h2 : i < k) : CtV l D ac A tab ad rest yJ0_checkIndex_df160 cJ0_checkIndex_df160 2 2 [.int i, .int k] M M := by
  refine ct_ofV (own := RJ0) (by decide +kernel) rfl (Nat.le_of_ble_eq_true rfl) ?_
  intro p e s m args below meth c C
  refine a_L (L' := [(0, .int i), (1, .int k)]) rfl ?_
  refine a_iload_n (pc := 0) C dJ0_checkIndex_df160_0 0 rfl ?_
  refine a_iload_n (pc := 1) C dJ0_checkIndex_df160_1 1 rfl ?_
  refine a_ssio (pc := 2) C dJ0_checkIndex_df160_2 (fun v hv => ?_)
  refine a_callKS (pc := 5) (d' := 1) C dJ0_checkIndex_df160_5 ml_J0_1059 mc_J3_checkIndex_8e157 ms_J3_checkIndex_8e157 [.int i, .int k, v] rfl (Nat.le_of_ble_eq_true rfl) (Nat.le_of_ble_eq_true rfl) rfl (Nat.le_of_ble_eq_true rfl) (c_pchk hv h1 h2) ?_
  refine a_pop (pc := 8) C dJ0_checkIndex_df160_8 rfl ?_
  exact a_vret (pc := 9) C dJ0_checkIndex_df160_9 rfl
theorem inb_lt {w : Nat} (hw : w < 9) {i : Int32} (h : inb i (sLen.getD w 0)) : ¬ i < 0 ∧ i < Int32.ofNat (sLen.getD w 0) := by
  have h2 : sLen.getD w 0 < 2 ^ 31 := by
    rcases (show w = 0 ∨ w = 1 ∨ w = 2 ∨ w = 3 ∨ w = 4 ∨ w = 5 ∨ w = 6 ∨ w = 7 ∨ w = 8 by omega) with rfl | rfl | rfl | rfl | rfl | rfl | rfl | rfl | rfl <;> decide
  obtain ⟨j, hj, rfl⟩ := vp_in_of (x := i) (n := sLen.getD w 0) h h2
  exact ⟨fun h3 => h (Or.inl h3), nI_lt hj h2⟩
theorem c_lchr {w : Nat} (hw : w < 9) {i : Int32} (hi : inb i (sLen.getD w 0)) : CtI l D ac A tab ad rest yJ1_charAt_3b067 cJ1_charAt_3b067 2 .char 3 [.ref (ad (2000 + w)), .int i] M (schr w i.toNatClampNeg) M := by
  refine ct_ofI (own := RJ1) (by decide +kernel) rfl (Nat.le_of_ble_eq_true rfl) ?_
  intro p e s m args below meth c C
  refine a_L (L' := [(0, .ref (ad (2000 + w))), (1, .int i)]) rfl ?_
  refine a_iload_n (pc := 0) C dJ1_charAt_3b067_0 1 rfl ?_
  refine a_aload_n (pc := 1) C dJ1_charAt_3b067_1 0 rfl ?_
  refine a_sbn (pc := 2) C dJ1_charAt_3b067_2 hw ?_
  refine a_callKV (pc := 3) (d' := 2) C dJ1_charAt_3b067_3 ml_J1_9 mc_J0_checkIndex_df160 ms_J0_checkIndex_df160 [.int i, .int (Int32.ofNat (sLen.getD w 0))] rfl (Nat.le_of_ble_eq_true rfl) (Nat.le_of_ble_eq_true rfl) rfl (Nat.le_of_ble_eq_true rfl) (c_schk (inb_lt hw hi).1 (inb_lt hw hi).2) ?_
  refine a_aload_n (pc := 6) C dJ1_charAt_3b067_6 0 rfl ?_
  refine a_iload_n (pc := 7) C dJ1_charAt_3b067_7 1 rfl ?_
  refine a_sbl (pc := 8) C dJ1_charAt_3b067_8 hw hi ?_
  refine a_sipush (pc := 9) (v := 255) C dJ1_charAt_3b067_9 (by decide) ?_
  refine a_iand (pc := 12) C dJ1_charAt_3b067_12 ?_
  refine a_i2c (pc := 13) C dJ1_charAt_3b067_13 ?_
  exact a_nret (pc := 14) C dJ1_charAt_3b067_14 (pk_nc _)
theorem c_schr {w : Nat} (hw : w < 9) {i : Int32} (hi : inb i (sLen.getD w 0)) : CtI l D ac A tab ad rest yJ0_charAt_5068e cJ0_charAt_5068e 2 .char 4 [.ref (ad (1000 + w)), .int i] M (schr w i.toNatClampNeg) M := by
  refine ct_ofI (own := RJ0) (by decide +kernel) rfl (Nat.le_of_ble_eq_true rfl) ?_
  intro p e s m args below meth c C
  refine a_L (L' := [(0, .ref (ad (1000 + w))), (1, .int i)]) rfl ?_
  refine a_aload_n (pc := 0) C dJ0_charAt_5068e_0 0 rfl ?_
  refine a_callW (pc := 1) (d' := 1) C dJ0_charAt_5068e_1 ml_J0_492 mc_J0_isLatin1_aae02 mv_J0_isLatin1_aae02 hw rfl [] rfl (Nat.le_of_ble_eq_true rfl) (Nat.le_of_ble_eq_true rfl) rfl (Nat.le_of_ble_eq_true rfl) (c_isLatin1 hw) ?_
  refine a_if_eq (pc := 4) (ρ := Unit) (o := ()) (X := none) (Y := some ()) 16 C dJ0_charAt_5068e_4 (by decide) rfl (fun h => by cases h) (fun _ => ?_)
  refine a_aload_n (pc := 7) C dJ0_charAt_5068e_7 0 rfl ?_
  refine a_sval (pc := 8) C dJ0_charAt_5068e_8 hw ?_
  refine a_iload_n (pc := 11) C dJ0_charAt_5068e_11 1 rfl ?_
  refine a_callKS (pc := 12) (d' := 3) C dJ0_charAt_5068e_12 ml_J0_495 mc_J1_charAt_3b067 ms_J1_charAt_3b067 [.ref (ad (2000 + w)), .int i] rfl (Nat.le_of_ble_eq_true rfl) (Nat.le_of_ble_eq_true rfl) rfl (Nat.le_of_ble_eq_true rfl) (c_lchr hw hi) ?_
  exact a_nret (pc := 15) C dJ0_charAt_5068e_15 (pk_nc _)
end STRC
section STRR
variable {p : Program} {l : Launch} {e : Env} {s : State} {m : MethodId} {args : Array Value} {below : List Frame} {meth : Method} {c : Code} {D : va_G} {ac : Nat → ClassId} {A : Nat → Prop} {nL d : Nat} {tab : List Ds} {ad : Nat → Nat} {rest : va_W} {Q : State → Prop} {L : List (Nat × Value)} {S : List Value} {M : Mem} {cc : ByteArray} {own : String} {ret : Option FieldType}
theorem a_slen {pc idx w : Nat} (C : Cx p s m args meth c cc nL own ret D ac ad A) (hd : decode cc pc = .ok (.invokevirtual idx, 3)) (hlk : Cond.methodLink own idx yJ0_length_8abf5 ∈ gt) (hw : w < 9) (hdd : 2 < d) (hW : (S.map fun v => v.category).sum ≤ 8) (k : At p l e (rmD d) s m args below meth c D ac A nL tab ad rest Q (pc + 3) L (.int (Int32.ofNat (sLen.getD w 0)) :: S) M) : At p l e (rmD d) s m args below meth c D ac A nL tab ad rest Q pc L (.ref (ad (1000 + w)) :: S) M :=
  a_callW C hd hlk mc_J0_length_8abf5 mv_J0_length_8abf5 hw rfl [] rfl hdd (Nat.le_of_ble_eq_true rfl) rfl hW (c_slen hw) k
theorem a_schr {pc idx w : Nat} {i : Int32} {ρ : Type} {o : ρ} {X : Option ρ} (C : Cx p s m args meth c cc nL own ret D ac ad A) (hd : decode cc pc = .ok (.invokevirtual idx, 3)) (hlk : Cond.methodLink own idx yJ0_charAt_5068e ∈ gt) (hw : w < 9) (hdd : 4 < d) (hW : (S.map fun v => v.category).sum ≤ 8) (hf : ck (inb i (sLen.getD w 0)) X = some o) (k : X = some o → At p l e (rmD d) s m args below meth c D ac A nL tab ad rest Q (pc + 3) L (.int (schr w i.toNatClampNeg) :: S) M) : At p l e (rmD d) s m args below meth c D ac A nL tab ad rest Q pc L (.int i :: .ref (ad (1000 + w)) :: S) M :=
  a_callW C hd hlk mc_J0_charAt_5068e mv_J0_charAt_5068e hw rfl [.int i] rfl hdd (Nat.le_of_ble_eq_true rfl) rfl hW (c_schr hw (ck_some hf).1) (k (ck_some hf).2)
end STRR
