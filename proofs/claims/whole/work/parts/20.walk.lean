theorem dX8_isRead_0 : decode cX8_isRead 0 = .ok (.aload_n 0, 1) := by decide +kernel
theorem dX8_isRead_1 : decode cX8_isRead 1 = .ok (.getfield 314, 3) := by decide +kernel
theorem dX8_isRead_4 : decode cX8_isRead 4 = .ok (.iconst 2, 1) := by decide +kernel
theorem dX8_isRead_5 : decode cX8_isRead 5 = .ok (.if_icmp .ne 18, 3) := by decide +kernel
theorem dX8_isRead_8 : decode cX8_isRead 8 = .ok (.aload_n 0, 1) := by decide +kernel
theorem dX8_isRead_9 : decode cX8_isRead 9 = .ok (.getfield 311, 3) := by decide +kernel
theorem dX8_isRead_12 : decode cX8_isRead 12 = .ok (.i2l, 1) := by decide +kernel
theorem dX8_isRead_13 : decode cX8_isRead 13 = .ok (.iload_n 2, 1) := by decide +kernel
theorem dX8_isRead_14 : decode cX8_isRead 14 = .ok (.i2l, 1) := by decide +kernel
theorem dX8_isRead_15 : decode cX8_isRead 15 = .ok (.iload_n 3, 1) := by decide +kernel
theorem dX8_isRead_16 : decode cX8_isRead 16 = .ok (.i2l, 1) := by decide +kernel
theorem dX8_isRead_17 : decode cX8_isRead 17 = .ok (.invokestatic 98, 3) := by decide +kernel
theorem dX8_isRead_20 : decode cX8_isRead 20 = .ok (.ifCond .ne 5, 3) := by decide +kernel
theorem dX8_isRead_23 : decode cX8_isRead 23 = .ok (.iconst 0, 1) := by decide +kernel
theorem dX8_isRead_24 : decode cX8_isRead 24 = .ok (.ireturn, 1) := by decide +kernel
theorem dX8_isRead_25 : decode cX8_isRead 25 = .ok (.aload_n 0, 1) := by decide +kernel
theorem dX8_isRead_26 : decode cX8_isRead 26 = .ok (.getfield 74, 3) := by decide +kernel
theorem dX8_isRead_29 : decode cX8_isRead 29 = .ok (.iload_n 1, 1) := by decide +kernel
theorem dX8_isRead_30 : decode cX8_isRead 30 = .ok (.aload_n 0, 1) := by decide +kernel
theorem dX8_isRead_31 : decode cX8_isRead 31 = .ok (.getfield 311, 3) := by decide +kernel
theorem dX8_isRead_34 : decode cX8_isRead 34 = .ok (.iastore, 1) := by decide +kernel
theorem dX8_isRead_35 : decode cX8_isRead 35 = .ok (.aload_n 0, 1) := by decide +kernel
theorem dX8_isRead_36 : decode cX8_isRead 36 = .ok (.invokevirtual 321, 3) := by decide +kernel
theorem dX8_isRead_39 : decode cX8_isRead 39 = .ok (.iconst 1, 1) := by decide +kernel
theorem dX8_isRead_40 : decode cX8_isRead 40 = .ok (.ireturn, 1) := by decide +kernel
def f_X8_isRead (N : Nat) (x1 : Int32) (x2 : Int32) (x3 : Int32) (M : Mem) : Option (Int32 × Mem) := if (M.1 0 34) = (2 : Int32) then (bd (f_X8_in N ((M.1 0 35).toInt64) x2.toInt64 x3.toInt64 M) (fun v1 => if v1 = 0 then (some ((0 : Int32), M)) else (ck (inb x1 4) (nm (setI M 19 x1.toNatClampNeg (M.1 0 35)) (fun M3 => bd (f_X8_goes N  M3) (fun M5 => some ((1 : Int32), M5))))))) else (some ((0 : Int32), M))
set_option maxRecDepth 100000 in
set_option maxHeartbeats 4000000 in
theorem c_X8_isRead {l : Launch} {D : va_G} {ac : Nat → ClassId} {A : Nat → Prop} {ad : Nat → Nat} {rest : va_W} (N : Nat) (x1 : Int32) (x2 : Int32) (x3 : Int32)  (M : Mem) (r0 : Int32) (M0 : Mem) (hf : f_X8_isRead N x1 x2 x3 M = some (r0, M0)) : CtI l D ac A tabM ad rest yX8_isRead cX8_isRead 4 .boolean 4 [.ref (ad 0), .int x1, .int x2, .int x3] M r0 M0 := by
  refine ct_ofI (own := RX8) (by decide +kernel) rfl (Nat.le_of_ble_eq_true rfl) ?_
  intro p e s m args below meth c C
  unfold f_X8_isRead at hf
  refine a_L (L' := [(0, .ref (ad 0)), (1, .int x1), (2, .int x2), (3, .int x3)]) rfl ?_
  refine a_aload_n (pc := 0) C dX8_isRead_0 0 rfl ?_
  refine a_getI (pc := 1) C dX8_isRead_1 fl_X8_314 tm_0 rfl ?_
  refine a_iconst (pc := 4) (v := 2) C dX8_isRead_4 (by decide) ?_
  refine a_icmp_ne (pc := 5) 23 C dX8_isRead_5 (by decide) hf (fun hf => ?_) (fun hf => ?_)
  · refine a_iconst (pc := 23) (v := 0) C dX8_isRead_23 (by decide) ?_
    exact a_zret (pc := 24) C dX8_isRead_24 (Or.inl rfl) (so_1 hf) (so_2 hf)
  · refine a_aload_n (pc := 8) C dX8_isRead_8 0 rfl ?_
    refine a_getI (pc := 9) C dX8_isRead_9 fl_X8_311 tm_0 rfl ?_
    refine a_i2l (pc := 12) C dX8_isRead_12 ?_
    refine a_iload_n (pc := 13) C dX8_isRead_13 2 rfl ?_
    refine a_i2l (pc := 14) C dX8_isRead_14 ?_
    refine a_iload_n (pc := 15) C dX8_isRead_15 3 rfl ?_
    refine a_i2l (pc := 16) C dX8_isRead_16 ?_
    refine a_callS_Ir (pc := 17) (d' := 1) C dX8_isRead_17 ml_X8_98 mc_X8_in ms_X8_in [.long ((M.1 0 35).toInt64), .long x2.toInt64, .long x3.toInt64] rfl (Nat.le_of_ble_eq_true rfl) (Nat.le_of_ble_eq_true rfl) rfl (Nat.le_of_ble_eq_true rfl) (fun r h => c_X8_in N ((M.1 0 35).toInt64) x2.toInt64 x3.toInt64  _  r h) hf (fun v1 hf => ?_)
    refine a_if_ne (pc := 20) 25 C dX8_isRead_20 (by decide) hf (fun hf => ?_) (fun hf => ?_)
    · refine a_aload_n (pc := 25) C dX8_isRead_25 0 rfl ?_
      refine a_getR (pc := 26) C dX8_isRead_26 fl_X8_74 tm_0 rfl ?_
      refine a_iload_n (pc := 29) C dX8_isRead_29 1 rfl ?_
      refine a_aload_n (pc := 30) C dX8_isRead_30 0 rfl ?_
      refine a_getI (pc := 31) C dX8_isRead_31 fl_X8_311 tm_0 rfl ?_
      refine a_iast (pc := 34) C dX8_isRead_34 tm_19 hf (fun M3 hf => ?_)
      refine a_aload_n (pc := 35) C dX8_isRead_35 0 rfl ?_
      refine a_callV_V (pc := 36) (d' := 3) C dX8_isRead_36 ml_X8_321 mc_X8_goes mv_X8_goes tm_0 rfl [] rfl (Nat.le_of_ble_eq_true rfl) (Nat.le_of_ble_eq_true rfl) rfl (Nat.le_of_ble_eq_true rfl) (fun M' h => c_X8_goes N   _  M' h) hf (fun M5 hf => ?_)
      refine a_iconst (pc := 39) (v := 1) C dX8_isRead_39 (by decide) ?_
      exact a_zret (pc := 40) C dX8_isRead_40 (Or.inr rfl) (so_1 hf) (so_2 hf)
    · refine a_iconst (pc := 23) (v := 0) C dX8_isRead_23 (by decide) ?_
      exact a_zret (pc := 24) C dX8_isRead_24 (Or.inl rfl) (so_1 hf) (so_2 hf)
theorem dX8_write_0 : decode cX8_write 0 = .ok (.aload_n 0, 1) := by decide +kernel
theorem dX8_write_1 : decode cX8_write 1 = .ok (.iload_n 1, 1) := by decide +kernel
theorem dX8_write_2 : decode cX8_write 2 = .ok (.iload_n 2, 1) := by decide +kernel
theorem dX8_write_3 : decode cX8_write 3 = .ok (.invokevirtual 353, 3) := by decide +kernel
theorem dX8_write_6 : decode cX8_write 6 = .ok (.istore 5, 2) := by decide +kernel
theorem dX8_write_8 : decode cX8_write 8 = .ok (.iload 5, 2) := by decide +kernel
theorem dX8_write_10 : decode cX8_write 10 = .ok (.ifCond .eq 6, 3) := by decide +kernel
theorem dX8_write_13 : decode cX8_write 13 = .ok (.iload 5, 2) := by decide +kernel
theorem dX8_write_15 : decode cX8_write 15 = .ok (.ireturn, 1) := by decide +kernel
theorem dX8_write_16 : decode cX8_write 16 = .ok (.aload_n 0, 1) := by decide +kernel
theorem dX8_write_17 : decode cX8_write 17 = .ok (.getfield 77, 3) := by decide +kernel
theorem dX8_write_20 : decode cX8_write 20 = .ok (.iload_n 1, 1) := by decide +kernel
theorem dX8_write_21 : decode cX8_write 21 = .ok (.iaload, 1) := by decide +kernel
theorem dX8_write_22 : decode cX8_write 22 = .ok (.ifCond .ne 14, 3) := by decide +kernel
theorem dX8_write_25 : decode cX8_write 25 = .ok (.lload_n 3, 1) := by decide +kernel
theorem dX8_write_26 : decode cX8_write 26 = .ok (.l2i, 1) := by decide +kernel
theorem dX8_write_27 : decode cX8_write 27 = .ok (.i2l, 1) := by decide +kernel
theorem dX8_write_28 : decode cX8_write 28 = .ok (.lload_n 3, 1) := by decide +kernel
theorem dX8_write_29 : decode cX8_write 29 = .ok (.lcmp, 1) := by decide +kernel
theorem dX8_write_30 : decode cX8_write 30 = .ok (.ifCond .eq 6, 3) := by decide +kernel
theorem dX8_write_33 : decode cX8_write 33 = .ok (.bipush (-5), 2) := by decide +kernel
theorem dX8_write_35 : decode cX8_write 35 = .ok (.ireturn, 1) := by decide +kernel
theorem dX8_write_36 : decode cX8_write 36 = .ok (.aload_n 0, 1) := by decide +kernel
theorem dX8_write_37 : decode cX8_write 37 = .ok (.getfield 83, 3) := by decide +kernel
theorem dX8_write_40 : decode cX8_write 40 = .ok (.bipush 40, 2) := by decide +kernel
theorem dX8_write_42 : decode cX8_write 42 = .ok (.iload_n 1, 1) := by decide +kernel
theorem dX8_write_43 : decode cX8_write 43 = .ok (.imul, 1) := by decide +kernel
theorem dX8_write_44 : decode cX8_write 44 = .ok (.iload_n 2, 1) := by decide +kernel
theorem dX8_write_45 : decode cX8_write 45 = .ok (.iadd, 1) := by decide +kernel
theorem dX8_write_46 : decode cX8_write 46 = .ok (.lload_n 3, 1) := by decide +kernel
theorem dX8_write_47 : decode cX8_write 47 = .ok (.lastore, 1) := by decide +kernel
theorem dX8_write_48 : decode cX8_write 48 = .ok (.iconst 1, 1) := by decide +kernel
theorem dX8_write_49 : decode cX8_write 49 = .ok (.ireturn, 1) := by decide +kernel
def f_X8_write (N : Nat) (x1 : Int32) (x2 : Int32) (x3 : Int64) (M : Mem) : Option (Int32 × Mem) := bd (f_X8_wrongAt N x1 x2 M) (fun v1 => if v1 = 0 then (ck (inb x1 4) (jn (fun (a36 : Unit) => ck (inb (((40 : Int32) * x1) + x2) 160) (nm (setJ M 22 (((40 : Int32) * x1) + x2).toNatClampNeg x3) (fun M3 => some ((1 : Int32), M3)))) (fun (k36 : Unit → Option (Int32 × Mem)) => if (M.1 20 x1.toNatClampNeg) = 0 then (if (lg_cmp x3.toInt32.toInt64 x3) = 0 then (k36 ()) else (some ((-5 : Int32), M))) else (k36 ())))) else (some (v1, M)))
set_option maxRecDepth 100000 in
set_option maxHeartbeats 4000000 in
theorem c_X8_write {l : Launch} {D : va_G} {ac : Nat → ClassId} {A : Nat → Prop} {ad : Nat → Nat} {rest : va_W} (N : Nat) (x1 : Int32) (x2 : Int32) (x3 : Int64)  (M : Mem) (r0 : Int32) (M0 : Mem) (hf : f_X8_write N x1 x2 x3 M = some (r0, M0)) : CtI l D ac A tabM ad rest yX8_write cX8_write 6 .int 4 [.ref (ad 0), .int x1, .int x2, .long x3] M r0 M0 := by
  refine ct_ofI (own := RX8) (by decide +kernel) rfl (Nat.le_of_ble_eq_true rfl) ?_
  intro p e s m args below meth c C
  unfold f_X8_write at hf
  refine a_L (L' := [(0, .ref (ad 0)), (1, .int x1), (2, .int x2), (3, .long x3)]) rfl ?_
  refine a_aload_n (pc := 0) C dX8_write_0 0 rfl ?_
  refine a_iload_n (pc := 1) C dX8_write_1 1 rfl ?_
  refine a_iload_n (pc := 2) C dX8_write_2 2 rfl ?_
  refine a_callV_Ir (pc := 3) (d' := 3) C dX8_write_3 ml_X8_353 mc_X8_wrongAt mv_X8_wrongAt tm_0 rfl [.int x1, .int x2] rfl (Nat.le_of_ble_eq_true rfl) (Nat.le_of_ble_eq_true rfl) rfl (Nat.le_of_ble_eq_true rfl) (fun r h => c_X8_wrongAt N x1 x2  _  r h) hf (fun v1 hf => ?_)
  refine a_istore (pc := 6) [(5, .int v1), (0, .ref (ad 0)), (1, .int x1), (2, .int x2), (3, .long x3)] C dX8_write_6 (by decide) rfl ?_
  refine a_iload (pc := 8) C dX8_write_8 0 rfl ?_
  refine a_if_eq (pc := 10) 16 C dX8_write_10 (by decide) hf (fun hf => ?_) (fun hf => ?_)
  · refine a_aload_n (pc := 16) C dX8_write_16 1 rfl ?_
    refine a_getR (pc := 17) C dX8_write_17 fl_X8_77 tm_0 rfl ?_
    refine a_iload_n (pc := 20) C dX8_write_20 2 rfl ?_
    refine a_iald (pc := 21) C dX8_write_21 tm_20 hf (fun hf => ?_)
    refine a_jn 36 (fun a36 : Unit => [(0, .ref (ad 0)), (1, .int x1), (2, .int x2), (3, .long x3)]) (fun a36 : Unit => []) (fun a36 : Unit => M) hf (fun a36 hf => ?_) (fun k36 hk36 hf => ?_)
    · refine a_aload_n (pc := 36) C dX8_write_36 0 rfl ?_
      refine a_getR (pc := 37) C dX8_write_37 fl_X8_83 tm_0 rfl ?_
      refine a_bipush (pc := 40) (v := 40) C dX8_write_40 (by decide) ?_
      refine a_iload_n (pc := 42) C dX8_write_42 1 rfl ?_
      refine a_imul (pc := 43) C dX8_write_43 ?_
      refine a_iload_n (pc := 44) C dX8_write_44 2 rfl ?_
      refine a_iadd (pc := 45) C dX8_write_45 ?_
      refine a_lload_n (pc := 46) C dX8_write_46 3 rfl ?_
      refine a_last (pc := 47) C dX8_write_47 tm_22 hf (fun M3 hf => ?_)
      refine a_iconst (pc := 48) (v := 1) C dX8_write_48 (by decide) ?_
      exact a_iret (pc := 49) C dX8_write_49 (so_1 hf) (so_2 hf)
    · refine a_if_ne (pc := 22) 36 C dX8_write_22 (by decide) hf (fun hf => ?_) (fun hf => ?_)
      · exact a_sub [1, 2, 3, 4] rfl (hk36 () hf)
      · refine a_lload_n (pc := 25) C dX8_write_25 4 rfl ?_
        refine a_l2i (pc := 26) C dX8_write_26 ?_
        refine a_i2l (pc := 27) C dX8_write_27 ?_
        refine a_lload_n (pc := 28) C dX8_write_28 4 rfl ?_
        refine a_lcmp (pc := 29) C dX8_write_29 ?_
        refine a_if_eq (pc := 30) 36 C dX8_write_30 (by decide) hf (fun hf => ?_) (fun hf => ?_)
        · exact a_sub [1, 2, 3, 4] rfl (hk36 () hf)
        · refine a_bipush (pc := 33) (v := (-5)) C dX8_write_33 (by decide) ?_
          exact a_iret (pc := 35) C dX8_write_35 (so_1 hf) (so_2 hf)
  · refine a_iload (pc := 13) C dX8_write_13 0 rfl ?_
    exact a_iret (pc := 15) C dX8_write_15 (so_1 hf) (so_2 hf)
theorem dX8_item__0 : decode cX8_item_ 0 = .ok (.aload_n 0, 1) := by decide +kernel
theorem dX8_item__1 : decode cX8_item_ 1 = .ok (.iload_n 1, 1) := by decide +kernel
theorem dX8_item__2 : decode cX8_item_ 2 = .ok (.iload_n 2, 1) := by decide +kernel
theorem dX8_item__3 : decode cX8_item_ 3 = .ok (.invokevirtual 353, 3) := by decide +kernel
theorem dX8_item__6 : decode cX8_item_ 6 = .ok (.istore_n 3, 1) := by decide +kernel
theorem dX8_item__7 : decode cX8_item_ 7 = .ok (.iload_n 3, 1) := by decide +kernel
theorem dX8_item__8 : decode cX8_item_ 8 = .ok (.ifCond .eq 12, 3) := by decide +kernel
theorem dX8_item__11 : decode cX8_item_ 11 = .ok (.ldc2_w 356, 3) := by decide +kernel
theorem dX8_item__14 : decode cX8_item_ 14 = .ok (.iload_n 3, 1) := by decide +kernel
theorem dX8_item__15 : decode cX8_item_ 15 = .ok (.i2l, 1) := by decide +kernel
theorem dX8_item__16 : decode cX8_item_ 16 = .ok (.ladd, 1) := by decide +kernel
theorem dX8_item__17 : decode cX8_item_ 17 = .ok (.goto 14, 3) := by decide +kernel
theorem dX8_item__20 : decode cX8_item_ 20 = .ok (.aload_n 0, 1) := by decide +kernel
theorem dX8_item__21 : decode cX8_item_ 21 = .ok (.getfield 83, 3) := by decide +kernel
theorem dX8_item__24 : decode cX8_item_ 24 = .ok (.bipush 40, 2) := by decide +kernel
theorem dX8_item__26 : decode cX8_item_ 26 = .ok (.iload_n 1, 1) := by decide +kernel
theorem dX8_item__27 : decode cX8_item_ 27 = .ok (.imul, 1) := by decide +kernel
theorem dX8_item__28 : decode cX8_item_ 28 = .ok (.iload_n 2, 1) := by decide +kernel
theorem dX8_item__29 : decode cX8_item_ 29 = .ok (.iadd, 1) := by decide +kernel
theorem dX8_item__30 : decode cX8_item_ 30 = .ok (.laload, 1) := by decide +kernel
theorem dX8_item__31 : decode cX8_item_ 31 = .ok (.lreturn, 1) := by decide +kernel
def f_X8_item_ (N : Nat) (x1 : Int32) (x2 : Int32) (M : Mem) : Option (Int64) := bd (f_X8_wrongAt N x1 x2 M) (fun v1 => if v1 = 0 then (ck (inb (((40 : Int32) * x1) + x2) 160) (some (M.2 22 (((40 : Int32) * x1) + x2).toNatClampNeg))) else (some ((-4611686018427387904 : Int64) + v1.toInt64)))
set_option maxRecDepth 100000 in
set_option maxHeartbeats 4000000 in
theorem c_X8_item_ {l : Launch} {D : va_G} {ac : Nat → ClassId} {A : Nat → Prop} {ad : Nat → Nat} {rest : va_W} (N : Nat) (x1 : Int32) (x2 : Int32)  (M : Mem) (r0 : Int64) (hf : f_X8_item_ N x1 x2 M = some r0) : CtJ l D ac A tabM ad rest yX8_item_ cX8_item_ 4  4 [.ref (ad 0), .int x1, .int x2] M r0 M := by
  refine ct_ofJ (own := RX8) (by decide +kernel) rfl (Nat.le_of_ble_eq_true rfl) ?_
  intro p e s m args below meth c C
  unfold f_X8_item_ at hf
  refine a_L (L' := [(0, .ref (ad 0)), (1, .int x1), (2, .int x2)]) rfl ?_
  refine a_aload_n (pc := 0) C dX8_item__0 0 rfl ?_
  refine a_iload_n (pc := 1) C dX8_item__1 1 rfl ?_
  refine a_iload_n (pc := 2) C dX8_item__2 2 rfl ?_
  refine a_callV_Ir (pc := 3) (d' := 3) C dX8_item__3 ml_X8_353 mc_X8_wrongAt mv_X8_wrongAt tm_0 rfl [.int x1, .int x2] rfl (Nat.le_of_ble_eq_true rfl) (Nat.le_of_ble_eq_true rfl) rfl (Nat.le_of_ble_eq_true rfl) (fun r h => c_X8_wrongAt N x1 x2  _  r h) hf (fun v1 hf => ?_)
  refine a_istore_n (pc := 6) [(3, .int v1), (0, .ref (ad 0)), (1, .int x1), (2, .int x2)] C dX8_item__6 (by decide) rfl ?_
  refine a_iload_n (pc := 7) C dX8_item__7 0 rfl ?_
  refine a_if_eq (pc := 8) 20 C dX8_item__8 (by decide) hf (fun hf => ?_) (fun hf => ?_)
  · refine a_aload_n (pc := 20) C dX8_item__20 1 rfl ?_
    refine a_getR (pc := 21) C dX8_item__21 fl_X8_83 tm_0 rfl ?_
    refine a_bipush (pc := 24) (v := 40) C dX8_item__24 (by decide) ?_
    refine a_iload_n (pc := 26) C dX8_item__26 2 rfl ?_
    refine a_imul (pc := 27) C dX8_item__27 ?_
    refine a_iload_n (pc := 28) C dX8_item__28 3 rfl ?_
    refine a_iadd (pc := 29) C dX8_item__29 ?_
    refine a_lald (pc := 30) C dX8_item__30 tm_22 hf (fun hf => ?_)
    exact a_lret (pc := 31) C dX8_item__31 (Option.some.inj hf) rfl
  · refine a_ldc2 (pc := 11) C dX8_item__11 cj_X8_356 ?_
    refine a_iload_n (pc := 14) C dX8_item__14 0 rfl ?_
    refine a_i2l (pc := 15) C dX8_item__15 ?_
    refine a_ladd (pc := 16) C dX8_item__16 ?_
    refine a_goto (pc := 17) 31 C dX8_item__17 (by decide) ?_
    exact a_lret (pc := 31) C dX8_item__31 (Option.some.inj hf) rfl
theorem dX4_rateTurns_0 : decode cX4_rateTurns 0 = .ok (.aload_n 0, 1) := by decide +kernel
theorem dX4_rateTurns_1 : decode cX4_rateTurns 1 = .ok (.aload_n 1, 1) := by decide +kernel
theorem dX4_rateTurns_2 : decode cX4_rateTurns 2 = .ok (.invokevirtual 93, 3) := by decide +kernel
theorem dX4_rateTurns_5 : decode cX4_rateTurns 5 = .ok (.aload_n 0, 1) := by decide +kernel
theorem dX4_rateTurns_6 : decode cX4_rateTurns 6 = .ok (.getfield 34, 3) := by decide +kernel
theorem dX4_rateTurns_9 : decode cX4_rateTurns 9 = .ok (.ifCond .eq 4, 3) := by decide +kernel
theorem dX4_rateTurns_12 : decode cX4_rateTurns 12 = .ok (.return_, 1) := by decide +kernel
theorem dX4_rateTurns_13 : decode cX4_rateTurns 13 = .ok (.aload_n 0, 1) := by decide +kernel
theorem dX4_rateTurns_14 : decode cX4_rateTurns 14 = .ok (.iconst 1, 1) := by decide +kernel
theorem dX4_rateTurns_15 : decode cX4_rateTurns 15 = .ok (.putfield 34, 3) := by decide +kernel
theorem dX4_rateTurns_18 : decode cX4_rateTurns 18 = .ok (.aload_n 0, 1) := by decide +kernel
theorem dX4_rateTurns_19 : decode cX4_rateTurns 19 = .ok (.iconst 1, 1) := by decide +kernel
theorem dX4_rateTurns_20 : decode cX4_rateTurns 20 = .ok (.putfield 97, 3) := by decide +kernel
theorem dX4_rateTurns_23 : decode cX4_rateTurns 23 = .ok (.aload_n 0, 1) := by decide +kernel
theorem dX4_rateTurns_24 : decode cX4_rateTurns 24 = .ok (.iconst 1, 1) := by decide +kernel
theorem dX4_rateTurns_25 : decode cX4_rateTurns 25 = .ok (.putfield 100, 3) := by decide +kernel
theorem dX4_rateTurns_28 : decode cX4_rateTurns 28 = .ok (.iconst 1, 1) := by decide +kernel
theorem dX4_rateTurns_29 : decode cX4_rateTurns 29 = .ok (.istore_n 2, 1) := by decide +kernel
theorem dX4_rateTurns_30 : decode cX4_rateTurns 30 = .ok (.iconst 0, 1) := by decide +kernel
theorem dX4_rateTurns_31 : decode cX4_rateTurns 31 = .ok (.istore_n 3, 1) := by decide +kernel
theorem dX4_rateTurns_32 : decode cX4_rateTurns 32 = .ok (.iload_n 3, 1) := by decide +kernel
theorem dX4_rateTurns_33 : decode cX4_rateTurns 33 = .ok (.aload_n 0, 1) := by decide +kernel
theorem dX4_rateTurns_34 : decode cX4_rateTurns 34 = .ok (.getfield 46, 3) := by decide +kernel
theorem dX4_rateTurns_37 : decode cX4_rateTurns 37 = .ok (.if_icmp .ge 110, 3) := by decide +kernel
theorem dX4_rateTurns_40 : decode cX4_rateTurns 40 = .ok (.aload_n 0, 1) := by decide +kernel
theorem dX4_rateTurns_41 : decode cX4_rateTurns 41 = .ok (.getfield 46, 3) := by decide +kernel
theorem dX4_rateTurns_44 : decode cX4_rateTurns 44 = .ok (.iconst 1, 1) := by decide +kernel
theorem dX4_rateTurns_45 : decode cX4_rateTurns 45 = .ok (.isub, 1) := by decide +kernel
theorem dX4_rateTurns_46 : decode cX4_rateTurns 46 = .ok (.iload_n 3, 1) := by decide +kernel
theorem dX4_rateTurns_47 : decode cX4_rateTurns 47 = .ok (.isub, 1) := by decide +kernel
theorem dX4_rateTurns_48 : decode cX4_rateTurns 48 = .ok (.istore 4, 2) := by decide +kernel
theorem dX4_rateTurns_50 : decode cX4_rateTurns 50 = .ok (.iload 4, 2) := by decide +kernel
theorem dX4_rateTurns_52 : decode cX4_rateTurns 52 = .ok (.iload_n 3, 1) := by decide +kernel
theorem dX4_rateTurns_53 : decode cX4_rateTurns 53 = .ok (.if_icmp .ge 13, 3) := by decide +kernel
theorem dX4_rateTurns_56 : decode cX4_rateTurns 56 = .ok (.aload_n 0, 1) := by decide +kernel
theorem dX4_rateTurns_57 : decode cX4_rateTurns 57 = .ok (.getfield 27, 3) := by decide +kernel
theorem dX4_rateTurns_60 : decode cX4_rateTurns 60 = .ok (.iload 4, 2) := by decide +kernel
theorem dX4_rateTurns_62 : decode cX4_rateTurns 62 = .ok (.iaload, 1) := by decide +kernel
theorem dX4_rateTurns_63 : decode cX4_rateTurns 63 = .ok (.goto 8, 3) := by decide +kernel
theorem dX4_rateTurns_66 : decode cX4_rateTurns 66 = .ok (.aload_n 0, 1) := by decide +kernel
theorem dX4_rateTurns_67 : decode cX4_rateTurns 67 = .ok (.iload_n 3, 1) := by decide +kernel
theorem dX4_rateTurns_68 : decode cX4_rateTurns 68 = .ok (.invokevirtual 103, 3) := by decide +kernel
theorem dX4_rateTurns_71 : decode cX4_rateTurns 71 = .ok (.istore 5, 2) := by decide +kernel
theorem dX4_rateTurns_73 : decode cX4_rateTurns 73 = .ok (.aload_n 0, 1) := by decide +kernel
theorem dX4_rateTurns_74 : decode cX4_rateTurns 74 = .ok (.getfield 27, 3) := by decide +kernel
theorem dX4_rateTurns_77 : decode cX4_rateTurns 77 = .ok (.iload_n 3, 1) := by decide +kernel
theorem dX4_rateTurns_78 : decode cX4_rateTurns 78 = .ok (.iload 5, 2) := by decide +kernel
theorem dX4_rateTurns_80 : decode cX4_rateTurns 80 = .ok (.iastore, 1) := by decide +kernel
theorem dX4_rateTurns_81 : decode cX4_rateTurns 81 = .ok (.iload 5, 2) := by decide +kernel
theorem dX4_rateTurns_83 : decode cX4_rateTurns 83 = .ok (.ifCond .lt 58, 3) := by decide +kernel
theorem dX4_rateTurns_86 : decode cX4_rateTurns 86 = .ok (.iload_n 2, 1) := by decide +kernel
theorem dX4_rateTurns_87 : decode cX4_rateTurns 87 = .ok (.ifCond .ne 30, 3) := by decide +kernel
theorem dX4_rateTurns_90 : decode cX4_rateTurns 90 = .ok (.aload_n 0, 1) := by decide +kernel
theorem dX4_rateTurns_91 : decode cX4_rateTurns 91 = .ok (.getfield 15, 3) := by decide +kernel
theorem dX4_rateTurns_94 : decode cX4_rateTurns 94 = .ok (.iload 5, 2) := by decide +kernel
theorem dX4_rateTurns_96 : decode cX4_rateTurns 96 = .ok (.iaload, 1) := by decide +kernel
theorem dX4_rateTurns_97 : decode cX4_rateTurns 97 = .ok (.aload_n 0, 1) := by decide +kernel
theorem dX4_rateTurns_98 : decode cX4_rateTurns 98 = .ok (.getfield 100, 3) := by decide +kernel
theorem dX4_rateTurns_101 : decode cX4_rateTurns 101 = .ok (.imul, 1) := by decide +kernel
theorem dX4_rateTurns_102 : decode cX4_rateTurns 102 = .ok (.aload_n 0, 1) := by decide +kernel
theorem dX4_rateTurns_103 : decode cX4_rateTurns 103 = .ok (.getfield 97, 3) := by decide +kernel
theorem dX4_rateTurns_106 : decode cX4_rateTurns 106 = .ok (.aload_n 0, 1) := by decide +kernel
theorem dX4_rateTurns_107 : decode cX4_rateTurns 107 = .ok (.iload 5, 2) := by decide +kernel
theorem dX4_rateTurns_109 : decode cX4_rateTurns 109 = .ok (.iload_n 3, 1) := by decide +kernel
theorem dX4_rateTurns_110 : decode cX4_rateTurns 110 = .ok (.invokevirtual 90, 3) := by decide +kernel
theorem dX4_rateTurns_113 : decode cX4_rateTurns 113 = .ok (.imul, 1) := by decide +kernel
theorem dX4_rateTurns_114 : decode cX4_rateTurns 114 = .ok (.if_icmp .ge 27, 3) := by decide +kernel
theorem dX4_rateTurns_117 : decode cX4_rateTurns 117 = .ok (.iconst 0, 1) := by decide +kernel
theorem dX4_rateTurns_118 : decode cX4_rateTurns 118 = .ok (.istore_n 2, 1) := by decide +kernel
theorem dX4_rateTurns_119 : decode cX4_rateTurns 119 = .ok (.aload_n 0, 1) := by decide +kernel
theorem dX4_rateTurns_120 : decode cX4_rateTurns 120 = .ok (.aload_n 0, 1) := by decide +kernel
theorem dX4_rateTurns_121 : decode cX4_rateTurns 121 = .ok (.getfield 15, 3) := by decide +kernel
theorem dX4_rateTurns_124 : decode cX4_rateTurns 124 = .ok (.iload 5, 2) := by decide +kernel
theorem dX4_rateTurns_126 : decode cX4_rateTurns 126 = .ok (.iaload, 1) := by decide +kernel
theorem dX4_rateTurns_127 : decode cX4_rateTurns 127 = .ok (.putfield 97, 3) := by decide +kernel
theorem dX4_rateTurns_130 : decode cX4_rateTurns 130 = .ok (.aload_n 0, 1) := by decide +kernel
theorem dX4_rateTurns_131 : decode cX4_rateTurns 131 = .ok (.aload_n 0, 1) := by decide +kernel
theorem dX4_rateTurns_132 : decode cX4_rateTurns 132 = .ok (.iload 5, 2) := by decide +kernel
theorem dX4_rateTurns_134 : decode cX4_rateTurns 134 = .ok (.iload_n 3, 1) := by decide +kernel
theorem dX4_rateTurns_135 : decode cX4_rateTurns 135 = .ok (.invokevirtual 90, 3) := by decide +kernel
theorem dX4_rateTurns_138 : decode cX4_rateTurns 138 = .ok (.putfield 100, 3) := by decide +kernel
theorem dX4_rateTurns_141 : decode cX4_rateTurns 141 = .ok (.iinc 3 1, 3) := by decide +kernel
theorem dX4_rateTurns_144 : decode cX4_rateTurns 144 = .ok (.goto (-112), 3) := by decide +kernel
theorem dX4_rateTurns_147 : decode cX4_rateTurns 147 = .ok (.aload_n 0, 1) := by decide +kernel
theorem dX4_rateTurns_148 : decode cX4_rateTurns 148 = .ok (.getfield 97, 3) := by decide +kernel
theorem dX4_rateTurns_151 : decode cX4_rateTurns 151 = .ok (.i2l, 1) := by decide +kernel
theorem dX4_rateTurns_152 : decode cX4_rateTurns 152 = .ok (.aload_n 0, 1) := by decide +kernel
theorem dX4_rateTurns_153 : decode cX4_rateTurns 153 = .ok (.getfield 100, 3) := by decide +kernel
theorem dX4_rateTurns_156 : decode cX4_rateTurns 156 = .ok (.i2l, 1) := by decide +kernel
theorem dX4_rateTurns_157 : decode cX4_rateTurns 157 = .ok (.invokestatic 106, 3) := by decide +kernel
theorem dX4_rateTurns_160 : decode cX4_rateTurns 160 = .ok (.l2i, 1) := by decide +kernel
theorem dX4_rateTurns_161 : decode cX4_rateTurns 161 = .ok (.istore_n 3, 1) := by decide +kernel
theorem dX4_rateTurns_162 : decode cX4_rateTurns 162 = .ok (.iload_n 3, 1) := by decide +kernel
theorem dX4_rateTurns_163 : decode cX4_rateTurns 163 = .ok (.iconst 1, 1) := by decide +kernel
theorem dX4_rateTurns_164 : decode cX4_rateTurns 164 = .ok (.if_icmp .le 23, 3) := by decide +kernel
theorem dX4_rateTurns_167 : decode cX4_rateTurns 167 = .ok (.aload_n 0, 1) := by decide +kernel
theorem dX4_rateTurns_168 : decode cX4_rateTurns 168 = .ok (.dup, 1) := by decide +kernel
theorem dX4_rateTurns_169 : decode cX4_rateTurns 169 = .ok (.getfield 97, 3) := by decide +kernel
theorem dX4_rateTurns_172 : decode cX4_rateTurns 172 = .ok (.iload_n 3, 1) := by decide +kernel
theorem dX4_rateTurns_173 : decode cX4_rateTurns 173 = .ok (.idiv, 1) := by decide +kernel
theorem dX4_rateTurns_174 : decode cX4_rateTurns 174 = .ok (.putfield 97, 3) := by decide +kernel
theorem dX4_rateTurns_177 : decode cX4_rateTurns 177 = .ok (.aload_n 0, 1) := by decide +kernel
theorem dX4_rateTurns_178 : decode cX4_rateTurns 178 = .ok (.dup, 1) := by decide +kernel
theorem dX4_rateTurns_179 : decode cX4_rateTurns 179 = .ok (.getfield 100, 3) := by decide +kernel
theorem dX4_rateTurns_182 : decode cX4_rateTurns 182 = .ok (.iload_n 3, 1) := by decide +kernel
theorem dX4_rateTurns_183 : decode cX4_rateTurns 183 = .ok (.idiv, 1) := by decide +kernel
theorem dX4_rateTurns_184 : decode cX4_rateTurns 184 = .ok (.putfield 100, 3) := by decide +kernel
theorem dX4_rateTurns_187 : decode cX4_rateTurns 187 = .ok (.return_, 1) := by decide +kernel
def f_X4_rateTurns (N : Nat) (c1 : Nat) (M : Mem) : Option (Mem) := bd (f_X4_findRings N c1 M) (fun M2 => if (M2.1 19 6) = 0 then (ck ((1 : Int32) = 0 ∨ (1 : Int32) = 1) (nm (setI M2 19 6 (1 : Int32)) (fun M3 => nm (setI M3 19 3 (1 : Int32)) (fun M4 => nm (setI M4 19 4 (1 : Int32)) (fun M5 => lp (fun (k32 : (Int32 × Int32 × Mem) → Option (Mem)) (a32 : Int32 × Int32 × Mem) => if (a32.2.2.1 19 7) ≤ a32.2.1 then (bd (f_X7_commonPart N ((a32.2.2.1 19 3).toInt64) ((a32.2.2.1 19 4).toInt64) a32.2.2) (fun v6 => if v6.toInt32 ≤ (1 : Int32) then (some a32.2.2) else (ck (¬ v6.toInt32 = 0) (nm (setI a32.2.2 19 3 ((a32.2.2.1 19 3) / v6.toInt32)) (fun M8 => ck (¬ v6.toInt32 = 0) (nm (setI M8 19 4 ((M8.1 19 4) / v6.toInt32)) (fun M9 => some M9))))))) else (nm (((a32.2.2.1 19 7) - (1 : Int32)) - a32.2.1) (fun v10 => jn (fun (a71 : Int32) => ck (inb a32.2.1 1024) (nm (setI a32.2.2 25 a32.2.1.toNatClampNeg a71) (fun M11 => jn (fun (a141 : Int32 × Mem) => nm (a32.2.1 + (1 : Int32)) (fun v12 => k32 (a141.1, v12, a141.2))) (fun (k141 : (Int32 × Mem) → Option (Mem)) => if a71 < 0 then (k141 (a32.1, M11)) else (jn (fun (a117 : Unit) => ck (inb a71 64) (nm (setI M11 19 3 (M11.1 21 a71.toNatClampNeg)) (fun M13 => bd (f_X4_along N a71 a32.2.1 M13) (fun v14 => nm (setI M13 19 4 v14) (fun M16 => k141 ((0 : Int32), M16)))))) (fun (k117 : Unit → Option (Mem)) => if a32.1 = 0 then (ck (inb a71 64) (bd (f_X4_along N a71 a32.2.1 M11) (fun v17 => if ((M11.1 19 3) * v17) ≤ ((M11.1 21 a71.toNatClampNeg) * (M11.1 19 4)) then (k141 (a32.1, M11)) else (k117 ())))) else (k117 ()))))))) (fun (k71 : Int32 → Option (Mem)) => if a32.2.1 ≤ v10 then (bd (f_X4_worstRing N a32.2.1 a32.2.2) (fun v19 => k71 v19)) else (ck (inb v10 1024) (k71 (a32.2.2.1 25 v10.toNatClampNeg))))))) N ((1 : Int32), (0 : Int32), M5)))))) else (some M2))
set_option maxRecDepth 100000 in
set_option maxHeartbeats 4000000 in
theorem c_X4_rateTurns {l : Launch} {D : va_G} {ac : Nat → ClassId} {A : Nat → Prop} {ad : Nat → Nat} {rest : va_W} (N : Nat) (c1 : Nat) (hc1 : NetAt tabX c1) (M : Mem)  (M0 : Mem) (hf : f_X4_rateTurns N c1 M = some M0) : CtV l D ac A tabX ad rest yX4_rateTurns cX4_rateTurns 6  5 [.ref (ad 19), .ref (ad c1)] M  M0 := by
  refine ct_ofV (own := RX4) (by decide +kernel) rfl (Nat.le_of_ble_eq_true rfl) ?_
  intro p e s m args below meth c C
  unfold f_X4_rateTurns at hf
  refine a_L (L' := [(0, .ref (ad 19)), (1, .ref (ad c1))]) rfl ?_
  refine a_aload_n (pc := 0) C dX4_rateTurns_0 0 rfl ?_
  refine a_aload_n (pc := 1) C dX4_rateTurns_1 1 rfl ?_
  refine a_callV_V (pc := 2) (d' := 4) C dX4_rateTurns_2 ml_X4_93 mc_X4_findRings mv_X4_findRings tx_19 rfl [.ref (ad c1)] rfl (Nat.le_of_ble_eq_true rfl) (Nat.le_of_ble_eq_true rfl) rfl (Nat.le_of_ble_eq_true rfl) (fun M' h => c_X4_findRings N c1 hc1 _  M' h) hf (fun M2 hf => ?_)
  refine a_aload_n (pc := 5) C dX4_rateTurns_5 0 rfl ?_
  refine a_getI (pc := 6) C dX4_rateTurns_6 fl_X4_34 tx_19 rfl ?_
  refine a_if_eq (pc := 9) 13 C dX4_rateTurns_9 (by decide) hf (fun hf => ?_) (fun hf => ?_)
  · refine a_aload_n (pc := 13) C dX4_rateTurns_13 0 rfl ?_
    refine a_iconst (pc := 14) (v := 1) C dX4_rateTurns_14 (by decide) ?_
    refine a_putZ (pc := 15) C dX4_rateTurns_15 fl_X4_34 tx_19 rfl hf (fun M3 hf => ?_)
    refine a_aload_n (pc := 18) C dX4_rateTurns_18 0 rfl ?_
    refine a_iconst (pc := 19) (v := 1) C dX4_rateTurns_19 (by decide) ?_
    refine a_putI (pc := 20) C dX4_rateTurns_20 fl_X4_97 tx_19 rfl hf (fun M4 hf => ?_)
    refine a_aload_n (pc := 23) C dX4_rateTurns_23 0 rfl ?_
    refine a_iconst (pc := 24) (v := 1) C dX4_rateTurns_24 (by decide) ?_
    refine a_putI (pc := 25) C dX4_rateTurns_25 fl_X4_100 tx_19 rfl hf (fun M5 hf => ?_)
    refine a_iconst (pc := 28) (v := 1) C dX4_rateTurns_28 (by decide) ?_
    refine a_istore_n (pc := 29) [(2, .int (1 : Int32)), (0, .ref (ad 19)), (1, .ref (ad c1))] C dX4_rateTurns_29 (by decide) rfl ?_
    refine a_iconst (pc := 30) (v := 0) C dX4_rateTurns_30 (by decide) ?_
    refine a_istore_n (pc := 31) [(3, .int (0 : Int32)), (2, .int (1 : Int32)), (0, .ref (ad 19)), (1, .ref (ad c1))] C dX4_rateTurns_31 (by decide) rfl ?_
    refine a_sub [2, 1, 0] rfl ?_
    refine a_lp 32 (fun a32 : Int32 × Int32 × Mem => [(0, .ref (ad 19)), (2, .int a32.1), (3, .int a32.2.1)]) (fun a32 : Int32 × Int32 × Mem => []) (fun a32 : Int32 × Int32 × Mem => a32.2.2) (fun k32 a32 hk32 hf => ?_) N ((1 : Int32), (0 : Int32), M5) hf
    refine a_iload_n (pc := 32) C dX4_rateTurns_32 2 rfl ?_
    refine a_aload_n (pc := 33) C dX4_rateTurns_33 0 rfl ?_
    refine a_getI (pc := 34) C dX4_rateTurns_34 fl_X4_46 tx_19 rfl ?_
    refine a_icmp_ge (pc := 37) 147 C dX4_rateTurns_37 (by decide) hf (fun hf => ?_) (fun hf => ?_)
    · refine a_aload_n (pc := 147) C dX4_rateTurns_147 0 rfl ?_
      refine a_getI (pc := 148) C dX4_rateTurns_148 fl_X4_97 tx_19 rfl ?_
      refine a_i2l (pc := 151) C dX4_rateTurns_151 ?_
      refine a_aload_n (pc := 152) C dX4_rateTurns_152 0 rfl ?_
      refine a_getI (pc := 153) C dX4_rateTurns_153 fl_X4_100 tx_19 rfl ?_
      refine a_i2l (pc := 156) C dX4_rateTurns_156 ?_
      refine a_callN_Jr (pc := 157) (d' := 1) C dX4_rateTurns_157 C.2.2.2.2.2.1.1.2.1 mc_X7_commonPart ms_X7_commonPart [.long ((a32.2.2.1 19 3).toInt64), .long ((a32.2.2.1 19 4).toInt64)] rfl (Nat.le_of_ble_eq_true rfl) (Nat.le_of_ble_eq_true rfl) rfl (Nat.le_of_ble_eq_true rfl) (fun r h => c_X7_commonPart N ((a32.2.2.1 19 3).toInt64) ((a32.2.2.1 19 4).toInt64)  _  r h) hf (fun v6 hf => ?_)
      refine a_l2i (pc := 160) C dX4_rateTurns_160 ?_
      refine a_istore_n (pc := 161) [(3, .int v6.toInt32), (0, .ref (ad 19)), (2, .int a32.1)] C dX4_rateTurns_161 (by decide) rfl ?_
      refine a_iload_n (pc := 162) C dX4_rateTurns_162 0 rfl ?_
      refine a_iconst (pc := 163) (v := 1) C dX4_rateTurns_163 (by decide) ?_
      refine a_icmp_le (pc := 164) 187 C dX4_rateTurns_164 (by decide) hf (fun hf => ?_) (fun hf => ?_)
      · exact a_vret (pc := 187) C dX4_rateTurns_187 (Option.some.inj hf)
      · refine a_aload_n (pc := 167) C dX4_rateTurns_167 1 rfl ?_
        refine a_dup (pc := 168) C dX4_rateTurns_168 rfl ?_
        refine a_getI (pc := 169) C dX4_rateTurns_169 fl_X4_97 tx_19 rfl ?_
        refine a_iload_n (pc := 172) C dX4_rateTurns_172 0 rfl ?_
        refine a_idiv (pc := 173) C dX4_rateTurns_173 hf (fun hf => ?_)
        refine a_putI (pc := 174) C dX4_rateTurns_174 fl_X4_97 tx_19 rfl hf (fun M8 hf => ?_)
        refine a_aload_n (pc := 177) C dX4_rateTurns_177 1 rfl ?_
        refine a_dup (pc := 178) C dX4_rateTurns_178 rfl ?_
        refine a_getI (pc := 179) C dX4_rateTurns_179 fl_X4_100 tx_19 rfl ?_
        refine a_iload_n (pc := 182) C dX4_rateTurns_182 0 rfl ?_
        refine a_idiv (pc := 183) C dX4_rateTurns_183 hf (fun hf => ?_)
        refine a_putI (pc := 184) C dX4_rateTurns_184 fl_X4_100 tx_19 rfl hf (fun M9 hf => ?_)
        exact a_vret (pc := 187) C dX4_rateTurns_187 (Option.some.inj hf)
    · refine a_aload_n (pc := 40) C dX4_rateTurns_40 0 rfl ?_
      refine a_getI (pc := 41) C dX4_rateTurns_41 fl_X4_46 tx_19 rfl ?_
      refine a_iconst (pc := 44) (v := 1) C dX4_rateTurns_44 (by decide) ?_
      refine a_isub (pc := 45) C dX4_rateTurns_45 ?_
      refine a_iload_n (pc := 46) C dX4_rateTurns_46 2 rfl ?_
      refine a_isub (pc := 47) C dX4_rateTurns_47 ?_
      refine a_nmi hf (fun v10 hf => ?_)
      refine a_istore (pc := 48) [(4, .int v10), (0, .ref (ad 19)), (2, .int a32.1), (3, .int a32.2.1)] C dX4_rateTurns_48 (by decide) rfl ?_
      refine a_iload (pc := 50) C dX4_rateTurns_50 0 rfl ?_
      refine a_iload_n (pc := 52) C dX4_rateTurns_52 3 rfl ?_
      refine a_jn 71 (fun a71 : Int32 => [(0, .ref (ad 19)), (2, .int a32.1), (3, .int a32.2.1)]) (fun a71 : Int32 => [.int a71]) (fun a71 : Int32 => a32.2.2) hf (fun a71 hf => ?_) (fun k71 hk71 hf => ?_)
      · refine a_istore (pc := 71) [(5, .int a71), (0, .ref (ad 19)), (2, .int a32.1), (3, .int a32.2.1)] C dX4_rateTurns_71 (by decide) rfl ?_
        refine a_aload_n (pc := 73) C dX4_rateTurns_73 1 rfl ?_
        refine a_getR (pc := 74) C dX4_rateTurns_74 fl_X4_27 tx_19 rfl ?_
        refine a_iload_n (pc := 77) C dX4_rateTurns_77 3 rfl ?_
        refine a_iload (pc := 78) C dX4_rateTurns_78 0 rfl ?_
        refine a_iast (pc := 80) C dX4_rateTurns_80 tx_25 hf (fun M11 hf => ?_)
        refine a_iload (pc := 81) C dX4_rateTurns_81 0 rfl ?_
        refine a_jn 141 (fun a141 : Int32 × Mem => [(0, .ref (ad 19)), (2, .int a141.1), (3, .int a32.2.1)]) (fun a141 : Int32 × Mem => []) (fun a141 : Int32 × Mem => a141.2) hf (fun a141 hf => ?_) (fun k141 hk141 hf => ?_)
        · refine a_iinc (pc := 141) (v := 1) (fun v12 => [(3, .int v12), (0, .ref (ad 19)), (2, .int a141.1)]) C dX4_rateTurns_141 2 rfl (by decide) (by decide) (fun _ => rfl) hf (fun v12 hf => ?_)
          refine a_goto (pc := 144) 32 C dX4_rateTurns_144 (by decide) ?_
          exact a_sub [1, 2, 0] rfl (hk32 (a141.1, v12, a141.2) hf)
        · refine a_if_lt (pc := 83) 141 C dX4_rateTurns_83 (by decide) hf (fun hf => ?_) (fun hf => ?_)
          · exact a_sub [1, 2, 3] rfl (hk141 (a32.1, M11) hf)
          · refine a_iload_n (pc := 86) C dX4_rateTurns_86 2 rfl ?_
            refine a_jn 117 (fun a117 : Unit => [(0, .ref (ad 19)), (3, .int a32.2.1), (5, .int a71)]) (fun a117 : Unit => []) (fun a117 : Unit => M11) hf (fun a117 hf => ?_) (fun k117 hk117 hf => ?_)
            · refine a_iconst (pc := 117) (v := 0) C dX4_rateTurns_117 (by decide) ?_
              refine a_istore_n (pc := 118) [(2, .int (0 : Int32)), (0, .ref (ad 19)), (3, .int a32.2.1), (5, .int a71)] C dX4_rateTurns_118 (by decide) rfl ?_
              refine a_aload_n (pc := 119) C dX4_rateTurns_119 1 rfl ?_
              refine a_aload_n (pc := 120) C dX4_rateTurns_120 1 rfl ?_
              refine a_getR (pc := 121) C dX4_rateTurns_121 fl_X4_15 tx_19 rfl ?_
              refine a_iload (pc := 124) C dX4_rateTurns_124 3 rfl ?_
              refine a_iald (pc := 126) C dX4_rateTurns_126 tx_21 hf (fun hf => ?_)
              refine a_putI (pc := 127) C dX4_rateTurns_127 fl_X4_97 tx_19 rfl hf (fun M13 hf => ?_)
              refine a_aload_n (pc := 130) C dX4_rateTurns_130 1 rfl ?_
              refine a_aload_n (pc := 131) C dX4_rateTurns_131 1 rfl ?_
              refine a_iload (pc := 132) C dX4_rateTurns_132 3 rfl ?_
              refine a_iload_n (pc := 134) C dX4_rateTurns_134 2 rfl ?_
              refine a_callV_Ir (pc := 135) (d' := 2) C dX4_rateTurns_135 ml_X4_90 mc_X4_along mv_X4_along tx_19 rfl [.int a71, .int a32.2.1] rfl (Nat.le_of_ble_eq_true rfl) (Nat.le_of_ble_eq_true rfl) rfl (Nat.le_of_ble_eq_true rfl) (fun r h => c_X4_along N a71 a32.2.1  _  r h) hf (fun v14 hf => ?_)
              refine a_putI (pc := 138) C dX4_rateTurns_138 fl_X4_100 tx_19 rfl hf (fun M16 hf => ?_)
              exact a_sub [1, 0, 2] rfl (hk141 ((0 : Int32), M16) hf)
            · refine a_if_ne (pc := 87) 117 C dX4_rateTurns_87 (by decide) hf (fun hf => ?_) (fun hf => ?_)
              · exact a_sub [1, 3, 0] rfl (hk117 () hf)
              · refine a_aload_n (pc := 90) C dX4_rateTurns_90 1 rfl ?_
                refine a_getR (pc := 91) C dX4_rateTurns_91 fl_X4_15 tx_19 rfl ?_
                refine a_iload (pc := 94) C dX4_rateTurns_94 0 rfl ?_
                refine a_iald (pc := 96) C dX4_rateTurns_96 tx_21 hf (fun hf => ?_)
                refine a_aload_n (pc := 97) C dX4_rateTurns_97 1 rfl ?_
                refine a_getI (pc := 98) C dX4_rateTurns_98 fl_X4_100 tx_19 rfl ?_
                refine a_imul (pc := 101) C dX4_rateTurns_101 ?_
                refine a_aload_n (pc := 102) C dX4_rateTurns_102 1 rfl ?_
                refine a_getI (pc := 103) C dX4_rateTurns_103 fl_X4_97 tx_19 rfl ?_
                refine a_aload_n (pc := 106) C dX4_rateTurns_106 1 rfl ?_
                refine a_iload (pc := 107) C dX4_rateTurns_107 0 rfl ?_
                refine a_iload_n (pc := 109) C dX4_rateTurns_109 3 rfl ?_
                refine a_callV_Ir (pc := 110) (d' := 2) C dX4_rateTurns_110 ml_X4_90 mc_X4_along mv_X4_along tx_19 rfl [.int a71, .int a32.2.1] rfl (Nat.le_of_ble_eq_true rfl) (Nat.le_of_ble_eq_true rfl) rfl (Nat.le_of_ble_eq_true rfl) (fun r h => c_X4_along N a71 a32.2.1  _  r h) hf (fun v17 hf => ?_)
                refine a_imul (pc := 113) C dX4_rateTurns_113 ?_
                refine a_icmp_ge (pc := 114) 141 C dX4_rateTurns_114 (by decide) hf (fun hf => ?_) (fun hf => ?_)
                · exact a_sub [1, 2, 3] rfl (hk141 (a32.1, M11) hf)
                · exact a_sub [1, 3, 0] rfl (hk117 () hf)
      · refine a_icmp_ge (pc := 53) 66 C dX4_rateTurns_53 (by decide) hf (fun hf => ?_) (fun hf => ?_)
        · refine a_aload_n (pc := 66) C dX4_rateTurns_66 1 rfl ?_
          refine a_iload_n (pc := 67) C dX4_rateTurns_67 3 rfl ?_
          refine a_callV_Ir (pc := 68) (d' := 3) C dX4_rateTurns_68 ml_X4_103 mc_X4_worstRing mv_X4_worstRing tx_19 rfl [.int a32.2.1] rfl (Nat.le_of_ble_eq_true rfl) (Nat.le_of_ble_eq_true rfl) rfl (Nat.le_of_ble_eq_true rfl) (fun r h => c_X4_worstRing N a32.2.1  _  r h) hf (fun v19 hf => ?_)
          exact a_sub [1, 2, 3] rfl (hk71 v19 hf)
        · refine a_aload_n (pc := 56) C dX4_rateTurns_56 1 rfl ?_
          refine a_getR (pc := 57) C dX4_rateTurns_57 fl_X4_27 tx_19 rfl ?_
          refine a_iload (pc := 60) C dX4_rateTurns_60 0 rfl ?_
          refine a_iald (pc := 62) C dX4_rateTurns_62 tx_25 hf (fun hf => ?_)
          refine a_goto (pc := 63) 71 C dX4_rateTurns_63 (by decide) ?_
          exact a_sub [1, 2, 3] rfl (hk71 (a32.2.2.1 25 v10.toNatClampNeg) hf)
  · exact a_vret (pc := 12) C dX4_rateTurns_12 (Option.some.inj hf)
theorem dX7_rings_0 : decode cX7_rings 0 = .ok (.aload_n 0, 1) := by decide +kernel
theorem dX7_rings_1 : decode cX7_rings 1 = .ok (.getfield 25, 3) := by decide +kernel
theorem dX7_rings_4 : decode cX7_rings 4 = .ok (.aload_n 0, 1) := by decide +kernel
theorem dX7_rings_5 : decode cX7_rings 5 = .ok (.getfield 12, 3) := by decide +kernel
theorem dX7_rings_8 : decode cX7_rings 8 = .ok (.invokevirtual 175, 3) := by decide +kernel
theorem dX7_rings_11 : decode cX7_rings 11 = .ok (.aload_n 0, 1) := by decide +kernel
theorem dX7_rings_12 : decode cX7_rings 12 = .ok (.getfield 25, 3) := by decide +kernel
theorem dX7_rings_15 : decode cX7_rings 15 = .ok (.getfield 178, 3) := by decide +kernel
theorem dX7_rings_18 : decode cX7_rings 18 = .ok (.ireturn, 1) := by decide +kernel
def f_X7_rings (N : Nat)  (M : Mem) : Option (Int32 × Mem) := bd (f_X4_findRings N 1 M) (fun M2 => some ((M2.1 19 0), M2))
set_option maxRecDepth 100000 in
set_option maxHeartbeats 4000000 in
theorem c_X7_rings {l : Launch} {D : va_G} {ac : Nat → ClassId} {A : Nat → Prop} {ad : Nat → Nat} {rest : va_W} (N : Nat)   (M : Mem) (r0 : Int32) (M0 : Mem) (hf : f_X7_rings N  M = some (r0, M0)) : CtI l D ac A tabX ad rest yX7_rings cX7_rings 1 .int 5 [.ref (ad 0)] M r0 M0 := by
  refine ct_ofI (own := RX7) (by decide +kernel) rfl (Nat.le_of_ble_eq_true rfl) ?_
  intro p e s m args below meth c C
  unfold f_X7_rings at hf
  refine a_L (L' := [(0, .ref (ad 0))]) rfl ?_
  refine a_aload_n (pc := 0) C dX7_rings_0 0 rfl ?_
  refine a_getR (pc := 1) C dX7_rings_1 fl_X7_25 tx_0 rfl ?_
  refine a_aload_n (pc := 4) C dX7_rings_4 0 rfl ?_
  refine a_getR (pc := 5) C dX7_rings_5 fl_X7_12 tx_0 rfl ?_
  refine a_callV_V (pc := 8) (d' := 4) C dX7_rings_8 ml_X7_175 mc_X4_findRings mv_X4_findRings tx_19 rfl [.ref (ad 1)] rfl (Nat.le_of_ble_eq_true rfl) (Nat.le_of_ble_eq_true rfl) rfl (Nat.le_of_ble_eq_true rfl) (fun M' h => c_X4_findRings N 1 net_1 _  M' h) hf (fun M2 hf => ?_)
  refine a_aload_n (pc := 11) C dX7_rings_11 0 rfl ?_
  refine a_getR (pc := 12) C dX7_rings_12 fl_X7_25 tx_0 rfl ?_
  refine a_getI (pc := 15) C dX7_rings_15 fl_X7_178 tx_19 rfl ?_
  exact a_iret (pc := 18) C dX7_rings_18 (so_1 hf) (so_2 hf)
theorem dX7_ring_0 : decode cX7_ring 0 = .ok (.iload_n 2, 1) := by decide +kernel
theorem dX7_ring_1 : decode cX7_ring 1 = .ok (.iconst 0, 1) := by decide +kernel
theorem dX7_ring_2 : decode cX7_ring 2 = .ok (.iconst 2, 1) := by decide +kernel
theorem dX7_ring_3 : decode cX7_ring 3 = .ok (.invokestatic 64, 3) := by decide +kernel
theorem dX7_ring_6 : decode cX7_ring 6 = .ok (.ifCond .ne 6, 3) := by decide +kernel
theorem dX7_ring_9 : decode cX7_ring 9 = .ok (.bipush (-2), 2) := by decide +kernel
theorem dX7_ring_11 : decode cX7_ring 11 = .ok (.ireturn, 1) := by decide +kernel
theorem dX7_ring_12 : decode cX7_ring 12 = .ok (.aload_n 0, 1) := by decide +kernel
theorem dX7_ring_13 : decode cX7_ring 13 = .ok (.getfield 25, 3) := by decide +kernel
theorem dX7_ring_16 : decode cX7_ring 16 = .ok (.aload_n 0, 1) := by decide +kernel
theorem dX7_ring_17 : decode cX7_ring 17 = .ok (.getfield 12, 3) := by decide +kernel
theorem dX7_ring_20 : decode cX7_ring 20 = .ok (.invokevirtual 175, 3) := by decide +kernel
theorem dX7_ring_23 : decode cX7_ring 23 = .ok (.iload_n 1, 1) := by decide +kernel
theorem dX7_ring_24 : decode cX7_ring 24 = .ok (.ifCond .lt 14, 3) := by decide +kernel
theorem dX7_ring_27 : decode cX7_ring 27 = .ok (.iload_n 1, 1) := by decide +kernel
theorem dX7_ring_28 : decode cX7_ring 28 = .ok (.aload_n 0, 1) := by decide +kernel
theorem dX7_ring_29 : decode cX7_ring 29 = .ok (.getfield 25, 3) := by decide +kernel
theorem dX7_ring_32 : decode cX7_ring 32 = .ok (.getfield 178, 3) := by decide +kernel
theorem dX7_ring_35 : decode cX7_ring 35 = .ok (.if_icmp .lt 5, 3) := by decide +kernel
theorem dX7_ring_38 : decode cX7_ring 38 = .ok (.iconst (-1), 1) := by decide +kernel
theorem dX7_ring_39 : decode cX7_ring 39 = .ok (.ireturn, 1) := by decide +kernel
theorem dX7_ring_40 : decode cX7_ring 40 = .ok (.iload_n 2, 1) := by decide +kernel
theorem dX7_ring_41 : decode cX7_ring 41 = .ok (.iconst 1, 1) := by decide +kernel
theorem dX7_ring_42 : decode cX7_ring 42 = .ok (.if_icmp .ne 20, 3) := by decide +kernel
theorem dX7_ring_45 : decode cX7_ring 45 = .ok (.aload_n 0, 1) := by decide +kernel
theorem dX7_ring_46 : decode cX7_ring 46 = .ok (.getfield 12, 3) := by decide +kernel
theorem dX7_ring_49 : decode cX7_ring 49 = .ok (.aload_n 0, 1) := by decide +kernel
theorem dX7_ring_50 : decode cX7_ring 50 = .ok (.getfield 25, 3) := by decide +kernel
theorem dX7_ring_53 : decode cX7_ring 53 = .ok (.getfield 179, 3) := by decide +kernel
theorem dX7_ring_56 : decode cX7_ring 56 = .ok (.iload_n 1, 1) := by decide +kernel
theorem dX7_ring_57 : decode cX7_ring 57 = .ok (.iaload, 1) := by decide +kernel
theorem dX7_ring_58 : decode cX7_ring 58 = .ok (.invokevirtual 182, 3) := by decide +kernel
theorem dX7_ring_61 : decode cX7_ring 61 = .ok (.ireturn, 1) := by decide +kernel
theorem dX7_ring_62 : decode cX7_ring 62 = .ok (.iload_n 2, 1) := by decide +kernel
theorem dX7_ring_63 : decode cX7_ring 63 = .ok (.ifCond .ne 15, 3) := by decide +kernel
theorem dX7_ring_66 : decode cX7_ring 66 = .ok (.aload_n 0, 1) := by decide +kernel
theorem dX7_ring_67 : decode cX7_ring 67 = .ok (.getfield 25, 3) := by decide +kernel
theorem dX7_ring_70 : decode cX7_ring 70 = .ok (.getfield 179, 3) := by decide +kernel
theorem dX7_ring_73 : decode cX7_ring 73 = .ok (.iload_n 1, 1) := by decide +kernel
theorem dX7_ring_74 : decode cX7_ring 74 = .ok (.iaload, 1) := by decide +kernel
theorem dX7_ring_75 : decode cX7_ring 75 = .ok (.goto 12, 3) := by decide +kernel
theorem dX7_ring_78 : decode cX7_ring 78 = .ok (.aload_n 0, 1) := by decide +kernel
theorem dX7_ring_79 : decode cX7_ring 79 = .ok (.getfield 25, 3) := by decide +kernel
theorem dX7_ring_82 : decode cX7_ring 82 = .ok (.getfield 185, 3) := by decide +kernel
theorem dX7_ring_85 : decode cX7_ring 85 = .ok (.iload_n 1, 1) := by decide +kernel
theorem dX7_ring_86 : decode cX7_ring 86 = .ok (.iaload, 1) := by decide +kernel
theorem dX7_ring_87 : decode cX7_ring 87 = .ok (.ireturn, 1) := by decide +kernel
def f_X7_ring (N : Nat) (x1 : Int32) (x2 : Int32) (M : Mem) : Option (Int32 × Mem) := bd (f_X7_within N x2 (0 : Int32) (2 : Int32) M) (fun v1 => if v1 = 0 then (some ((-2 : Int32), M)) else (bd (f_X4_findRings N 1 M) (fun M4 => if x1 < 0 then (some ((-1 : Int32), M4)) else (if x1 < (M4.1 19 0) then (if x2 = (1 : Int32) then (ck (inb x1 64) (bd (f_X1_pointsOf N 1 (M4.1 20 x1.toNatClampNeg) M4) (fun v5 => some (v5, M4)))) else (if x2 = 0 then (ck (inb x1 64) (some ((M4.1 20 x1.toNatClampNeg), M4))) else (ck (inb x1 64) (some ((M4.1 21 x1.toNatClampNeg), M4))))) else (some ((-1 : Int32), M4))))))
set_option maxRecDepth 100000 in
set_option maxHeartbeats 4000000 in
theorem c_X7_ring {l : Launch} {D : va_G} {ac : Nat → ClassId} {A : Nat → Prop} {ad : Nat → Nat} {rest : va_W} (N : Nat) (x1 : Int32) (x2 : Int32)  (M : Mem) (r0 : Int32) (M0 : Mem) (hf : f_X7_ring N x1 x2 M = some (r0, M0)) : CtI l D ac A tabX ad rest yX7_ring cX7_ring 3 .int 5 [.ref (ad 0), .int x1, .int x2] M r0 M0 := by
  refine ct_ofI (own := RX7) (by decide +kernel) rfl (Nat.le_of_ble_eq_true rfl) ?_
  intro p e s m args below meth c C
  unfold f_X7_ring at hf
  refine a_L (L' := [(0, .ref (ad 0)), (1, .int x1), (2, .int x2)]) rfl ?_
  refine a_iload_n (pc := 0) C dX7_ring_0 2 rfl ?_
  refine a_iconst (pc := 1) (v := 0) C dX7_ring_1 (by decide) ?_
  refine a_iconst (pc := 2) (v := 2) C dX7_ring_2 (by decide) ?_
  refine a_callS_Ir (pc := 3) (d' := 1) C dX7_ring_3 ml_X7_64 mc_X7_within ms_X7_within [.int x2, .int (0 : Int32), .int (2 : Int32)] rfl (Nat.le_of_ble_eq_true rfl) (Nat.le_of_ble_eq_true rfl) rfl (Nat.le_of_ble_eq_true rfl) (fun r h => c_X7_within N x2 (0 : Int32) (2 : Int32)  _  r h) hf (fun v1 hf => ?_)
  refine a_if_ne (pc := 6) 12 C dX7_ring_6 (by decide) hf (fun hf => ?_) (fun hf => ?_)
  · refine a_aload_n (pc := 12) C dX7_ring_12 0 rfl ?_
    refine a_getR (pc := 13) C dX7_ring_13 fl_X7_25 tx_0 rfl ?_
    refine a_aload_n (pc := 16) C dX7_ring_16 0 rfl ?_
    refine a_getR (pc := 17) C dX7_ring_17 fl_X7_12 tx_0 rfl ?_
    refine a_callV_V (pc := 20) (d' := 4) C dX7_ring_20 ml_X7_175 mc_X4_findRings mv_X4_findRings tx_19 rfl [.ref (ad 1)] rfl (Nat.le_of_ble_eq_true rfl) (Nat.le_of_ble_eq_true rfl) rfl (Nat.le_of_ble_eq_true rfl) (fun M' h => c_X4_findRings N 1 net_1 _  M' h) hf (fun M4 hf => ?_)
    refine a_iload_n (pc := 23) C dX7_ring_23 1 rfl ?_
    refine a_if_lt (pc := 24) 38 C dX7_ring_24 (by decide) hf (fun hf => ?_) (fun hf => ?_)
    · refine a_iconst (pc := 38) (v := (-1)) C dX7_ring_38 (by decide) ?_
      exact a_iret (pc := 39) C dX7_ring_39 (so_1 hf) (so_2 hf)
    · refine a_iload_n (pc := 27) C dX7_ring_27 1 rfl ?_
      refine a_aload_n (pc := 28) C dX7_ring_28 0 rfl ?_
      refine a_getR (pc := 29) C dX7_ring_29 fl_X7_25 tx_0 rfl ?_
      refine a_getI (pc := 32) C dX7_ring_32 fl_X7_178 tx_19 rfl ?_
      refine a_icmp_lt (pc := 35) 40 C dX7_ring_35 (by decide) hf (fun hf => ?_) (fun hf => ?_)
      · refine a_iload_n (pc := 40) C dX7_ring_40 2 rfl ?_
        refine a_iconst (pc := 41) (v := 1) C dX7_ring_41 (by decide) ?_
        refine a_icmp_ne (pc := 42) 62 C dX7_ring_42 (by decide) hf (fun hf => ?_) (fun hf => ?_)
        · refine a_iload_n (pc := 62) C dX7_ring_62 2 rfl ?_
          refine a_if_ne (pc := 63) 78 C dX7_ring_63 (by decide) hf (fun hf => ?_) (fun hf => ?_)
          · refine a_aload_n (pc := 78) C dX7_ring_78 0 rfl ?_
            refine a_getR (pc := 79) C dX7_ring_79 fl_X7_25 tx_0 rfl ?_
            refine a_getR (pc := 82) C dX7_ring_82 fl_X7_185 tx_19 rfl ?_
            refine a_iload_n (pc := 85) C dX7_ring_85 1 rfl ?_
            refine a_iald (pc := 86) C dX7_ring_86 tx_21 hf (fun hf => ?_)
            exact a_iret (pc := 87) C dX7_ring_87 (so_1 hf) (so_2 hf)
          · refine a_aload_n (pc := 66) C dX7_ring_66 0 rfl ?_
            refine a_getR (pc := 67) C dX7_ring_67 fl_X7_25 tx_0 rfl ?_
            refine a_getR (pc := 70) C dX7_ring_70 fl_X7_179 tx_19 rfl ?_
            refine a_iload_n (pc := 73) C dX7_ring_73 1 rfl ?_
            refine a_iald (pc := 74) C dX7_ring_74 tx_20 hf (fun hf => ?_)
            refine a_goto (pc := 75) 87 C dX7_ring_75 (by decide) ?_
            exact a_iret (pc := 87) C dX7_ring_87 (so_1 hf) (so_2 hf)
        · refine a_aload_n (pc := 45) C dX7_ring_45 0 rfl ?_
          refine a_getR (pc := 46) C dX7_ring_46 fl_X7_12 tx_0 rfl ?_
          refine a_aload_n (pc := 49) C dX7_ring_49 0 rfl ?_
          refine a_getR (pc := 50) C dX7_ring_50 fl_X7_25 tx_0 rfl ?_
          refine a_getR (pc := 53) C dX7_ring_53 fl_X7_179 tx_19 rfl ?_
          refine a_iload_n (pc := 56) C dX7_ring_56 1 rfl ?_
          refine a_iald (pc := 57) C dX7_ring_57 tx_20 hf (fun hf => ?_)
          refine a_callV_Ir (pc := 58) (d' := 1) C dX7_ring_58 ml_X7_182 mc_X1_pointsOf mv_X1_pointsOf net_1.1 rfl [.int (M4.1 20 x1.toNatClampNeg)] rfl (Nat.le_of_ble_eq_true rfl) (Nat.le_of_ble_eq_true rfl) rfl (Nat.le_of_ble_eq_true rfl) (fun r h => c_X1_pointsOf N 1 (M4.1 20 x1.toNatClampNeg) net_1 _  r h) hf (fun v5 hf => ?_)
          exact a_iret (pc := 61) C dX7_ring_61 (so_1 hf) (so_2 hf)
      · refine a_iconst (pc := 38) (v := (-1)) C dX7_ring_38 (by decide) ?_
        exact a_iret (pc := 39) C dX7_ring_39 (so_1 hf) (so_2 hf)
  · refine a_bipush (pc := 9) (v := (-2)) C dX7_ring_9 (by decide) ?_
    exact a_iret (pc := 11) C dX7_ring_11 (so_1 hf) (so_2 hf)
theorem dX7_circled_0 : decode cX7_circled 0 = .ok (.aload_n 0, 1) := by decide +kernel
theorem dX7_circled_1 : decode cX7_circled 1 = .ok (.getfield 12, 3) := by decide +kernel
theorem dX7_circled_4 : decode cX7_circled 4 = .ok (.iload_n 1, 1) := by decide +kernel
theorem dX7_circled_5 : decode cX7_circled 5 = .ok (.invokevirtual 188, 3) := by decide +kernel
theorem dX7_circled_8 : decode cX7_circled 8 = .ok (.ifCond .ne 6, 3) := by decide +kernel
theorem dX7_circled_11 : decode cX7_circled 11 = .ok (.bipush (-2), 2) := by decide +kernel
theorem dX7_circled_13 : decode cX7_circled 13 = .ok (.ireturn, 1) := by decide +kernel
theorem dX7_circled_14 : decode cX7_circled 14 = .ok (.aload_n 0, 1) := by decide +kernel
theorem dX7_circled_15 : decode cX7_circled 15 = .ok (.getfield 25, 3) := by decide +kernel
theorem dX7_circled_18 : decode cX7_circled 18 = .ok (.aload_n 0, 1) := by decide +kernel
theorem dX7_circled_19 : decode cX7_circled 19 = .ok (.getfield 12, 3) := by decide +kernel
theorem dX7_circled_22 : decode cX7_circled 22 = .ok (.invokevirtual 175, 3) := by decide +kernel
theorem dX7_circled_25 : decode cX7_circled 25 = .ok (.aload_n 0, 1) := by decide +kernel
theorem dX7_circled_26 : decode cX7_circled 26 = .ok (.getfield 25, 3) := by decide +kernel
theorem dX7_circled_29 : decode cX7_circled 29 = .ok (.iload_n 1, 1) := by decide +kernel
theorem dX7_circled_30 : decode cX7_circled 30 = .ok (.invokevirtual 191, 3) := by decide +kernel
theorem dX7_circled_33 : decode cX7_circled 33 = .ok (.iconst (-1), 1) := by decide +kernel
theorem dX7_circled_34 : decode cX7_circled 34 = .ok (.if_icmp .ne 7, 3) := by decide +kernel
theorem dX7_circled_37 : decode cX7_circled 37 = .ok (.iconst 1, 1) := by decide +kernel
theorem dX7_circled_38 : decode cX7_circled 38 = .ok (.goto 4, 3) := by decide +kernel
theorem dX7_circled_41 : decode cX7_circled 41 = .ok (.iconst 0, 1) := by decide +kernel
theorem dX7_circled_42 : decode cX7_circled 42 = .ok (.ireturn, 1) := by decide +kernel
def f_X7_circled (N : Nat) (x1 : Int32) (M : Mem) : Option (Int32 × Mem) := bd (f_X1_areLines N 1 x1 M) (fun v1 => if v1 = 0 then (some ((-2 : Int32), M)) else (bd (f_X4_findRings N 1 M) (fun M4 => bd (f_X4_worstRing N x1 M4) (fun v5 => if v5 = (-1 : Int32) then (some ((1 : Int32), M4)) else (some ((0 : Int32), M4))))))
set_option maxRecDepth 100000 in
set_option maxHeartbeats 4000000 in
theorem c_X7_circled {l : Launch} {D : va_G} {ac : Nat → ClassId} {A : Nat → Prop} {ad : Nat → Nat} {rest : va_W} (N : Nat) (x1 : Int32)  (M : Mem) (r0 : Int32) (M0 : Mem) (hf : f_X7_circled N x1 M = some (r0, M0)) : CtI l D ac A tabX ad rest yX7_circled cX7_circled 2 .int 5 [.ref (ad 0), .int x1] M r0 M0 := by
  refine ct_ofI (own := RX7) (by decide +kernel) rfl (Nat.le_of_ble_eq_true rfl) ?_
  intro p e s m args below meth c C
  unfold f_X7_circled at hf
  refine a_L (L' := [(0, .ref (ad 0)), (1, .int x1)]) rfl ?_
  refine a_aload_n (pc := 0) C dX7_circled_0 0 rfl ?_
  refine a_getR (pc := 1) C dX7_circled_1 fl_X7_12 tx_0 rfl ?_
  refine a_iload_n (pc := 4) C dX7_circled_4 1 rfl ?_
  refine a_callV_Ir (pc := 5) (d' := 1) C dX7_circled_5 ml_X7_188 mc_X1_areLines mv_X1_areLines net_1.1 rfl [.int x1] rfl (Nat.le_of_ble_eq_true rfl) (Nat.le_of_ble_eq_true rfl) rfl (Nat.le_of_ble_eq_true rfl) (fun r h => c_X1_areLines N 1 x1 net_1 _  r h) hf (fun v1 hf => ?_)
  refine a_if_ne (pc := 8) 14 C dX7_circled_8 (by decide) hf (fun hf => ?_) (fun hf => ?_)
  · refine a_aload_n (pc := 14) C dX7_circled_14 0 rfl ?_
    refine a_getR (pc := 15) C dX7_circled_15 fl_X7_25 tx_0 rfl ?_
    refine a_aload_n (pc := 18) C dX7_circled_18 0 rfl ?_
    refine a_getR (pc := 19) C dX7_circled_19 fl_X7_12 tx_0 rfl ?_
    refine a_callV_V (pc := 22) (d' := 4) C dX7_circled_22 ml_X7_175 mc_X4_findRings mv_X4_findRings tx_19 rfl [.ref (ad 1)] rfl (Nat.le_of_ble_eq_true rfl) (Nat.le_of_ble_eq_true rfl) rfl (Nat.le_of_ble_eq_true rfl) (fun M' h => c_X4_findRings N 1 net_1 _  M' h) hf (fun M4 hf => ?_)
    refine a_aload_n (pc := 25) C dX7_circled_25 0 rfl ?_
    refine a_getR (pc := 26) C dX7_circled_26 fl_X7_25 tx_0 rfl ?_
    refine a_iload_n (pc := 29) C dX7_circled_29 1 rfl ?_
    refine a_callV_Ir (pc := 30) (d' := 3) C dX7_circled_30 ml_X7_191 mc_X4_worstRing mv_X4_worstRing tx_19 rfl [.int x1] rfl (Nat.le_of_ble_eq_true rfl) (Nat.le_of_ble_eq_true rfl) rfl (Nat.le_of_ble_eq_true rfl) (fun r h => c_X4_worstRing N x1  _  r h) hf (fun v5 hf => ?_)
    refine a_iconst (pc := 33) (v := (-1)) C dX7_circled_33 (by decide) ?_
    refine a_icmp_ne (pc := 34) 41 C dX7_circled_34 (by decide) hf (fun hf => ?_) (fun hf => ?_)
    · refine a_iconst (pc := 41) (v := 0) C dX7_circled_41 (by decide) ?_
      exact a_iret (pc := 42) C dX7_circled_42 (so_1 hf) (so_2 hf)
    · refine a_iconst (pc := 37) (v := 1) C dX7_circled_37 (by decide) ?_
      refine a_goto (pc := 38) 42 C dX7_circled_38 (by decide) ?_
      exact a_iret (pc := 42) C dX7_circled_42 (so_1 hf) (so_2 hf)
  · refine a_bipush (pc := 11) (v := (-2)) C dX7_circled_11 (by decide) ?_
    exact a_iret (pc := 13) C dX7_circled_13 (so_1 hf) (so_2 hf)
theorem dX7_arcs_0 : decode cX7_arcs 0 = .ok (.aload_n 0, 1) := by decide +kernel
theorem dX7_arcs_1 : decode cX7_arcs 1 = .ok (.iload_n 1, 1) := by decide +kernel
theorem dX7_arcs_2 : decode cX7_arcs 2 = .ok (.iload_n 2, 1) := by decide +kernel
theorem dX7_arcs_3 : decode cX7_arcs 3 = .ok (.iload_n 3, 1) := by decide +kernel
theorem dX7_arcs_4 : decode cX7_arcs 4 = .ok (.invokevirtual 228, 3) := by decide +kernel
theorem dX7_arcs_7 : decode cX7_arcs 7 = .ok (.istore 4, 2) := by decide +kernel
theorem dX7_arcs_9 : decode cX7_arcs 9 = .ok (.iload 4, 2) := by decide +kernel
theorem dX7_arcs_11 : decode cX7_arcs 11 = .ok (.ifCond .ge 6, 3) := by decide +kernel
theorem dX7_arcs_14 : decode cX7_arcs 14 = .ok (.iload 4, 2) := by decide +kernel
theorem dX7_arcs_16 : decode cX7_arcs 16 = .ok (.ireturn, 1) := by decide +kernel
theorem dX7_arcs_17 : decode cX7_arcs 17 = .ok (.aload_n 0, 1) := by decide +kernel
theorem dX7_arcs_18 : decode cX7_arcs 18 = .ok (.aload_n 0, 1) := by decide +kernel
theorem dX7_arcs_19 : decode cX7_arcs 19 = .ok (.getfield 59, 3) := by decide +kernel
theorem dX7_arcs_22 : decode cX7_arcs 22 = .ok (.iload_n 1, 1) := by decide +kernel
theorem dX7_arcs_23 : decode cX7_arcs 23 = .ok (.aaload, 1) := by decide +kernel
theorem dX7_arcs_24 : decode cX7_arcs 24 = .ok (.iload_n 2, 1) := by decide +kernel
theorem dX7_arcs_25 : decode cX7_arcs 25 = .ok (.iload_n 3, 1) := by decide +kernel
theorem dX7_arcs_26 : decode cX7_arcs 26 = .ok (.iconst 1, 1) := by decide +kernel
theorem dX7_arcs_27 : decode cX7_arcs 27 = .ok (.invokevirtual 231, 3) := by decide +kernel
theorem dX7_arcs_30 : decode cX7_arcs 30 = .ok (.invokestatic 235, 3) := by decide +kernel
theorem dX7_arcs_33 : decode cX7_arcs 33 = .ok (.aload_n 0, 1) := by decide +kernel
theorem dX7_arcs_34 : decode cX7_arcs 34 = .ok (.aload_n 0, 1) := by decide +kernel
theorem dX7_arcs_35 : decode cX7_arcs 35 = .ok (.getfield 59, 3) := by decide +kernel
theorem dX7_arcs_38 : decode cX7_arcs 38 = .ok (.iload_n 1, 1) := by decide +kernel
theorem dX7_arcs_39 : decode cX7_arcs 39 = .ok (.aaload, 1) := by decide +kernel
theorem dX7_arcs_40 : decode cX7_arcs 40 = .ok (.iload_n 2, 1) := by decide +kernel
theorem dX7_arcs_41 : decode cX7_arcs 41 = .ok (.iload_n 3, 1) := by decide +kernel
theorem dX7_arcs_42 : decode cX7_arcs 42 = .ok (.iconst 0, 1) := by decide +kernel
theorem dX7_arcs_43 : decode cX7_arcs 43 = .ok (.invokevirtual 231, 3) := by decide +kernel
theorem dX7_arcs_46 : decode cX7_arcs 46 = .ok (.invokestatic 235, 3) := by decide +kernel
theorem dX7_arcs_49 : decode cX7_arcs 49 = .ok (.iadd, 1) := by decide +kernel
theorem dX7_arcs_50 : decode cX7_arcs 50 = .ok (.ireturn, 1) := by decide +kernel
def f_X7_arcs (N : Nat) (x1 : Int32) (x2 : Int32) (x3 : Int32) (M : Mem) : Option (Int32) := bd (f_X7_refusalOfColouring N x1 x2 x3 M) (fun v1 => if 0 ≤ v1 then (ck (inb x1 4) (bd (f_X7_tightLines N (sheetC x1.toNatClampNeg) x2 x3 (1 : Int32) M) (fun v4 => bd (f_J6_bitCount_0f7a4 N v4 M) (fun v6 => ck (inb x1 4) (bd (f_X7_tightLines N (sheetC x1.toNatClampNeg) x2 x3 (0 : Int32) M) (fun v9 => bd (f_J6_bitCount_0f7a4 N v9 M) (fun v11 => some (v6 + v11)))))))) else (some v1))
set_option maxRecDepth 100000 in
set_option maxHeartbeats 4000000 in
theorem c_X7_arcs {l : Launch} {D : va_G} {ac : Nat → ClassId} {A : Nat → Prop} {ad : Nat → Nat} {rest : va_W} (N : Nat) (x1 : Int32) (x2 : Int32) (x3 : Int32)  (M : Mem) (r0 : Int32) (hf : f_X7_arcs N x1 x2 x3 M = some r0) : CtI l D ac A tabX ad rest yX7_arcs cX7_arcs 5 .int 5 [.ref (ad 0), .int x1, .int x2, .int x3] M r0 M := by
  refine ct_ofI (own := RX7) (by decide +kernel) rfl (Nat.le_of_ble_eq_true rfl) ?_
  intro p e s m args below meth c C
  unfold f_X7_arcs at hf
  refine a_L (L' := [(0, .ref (ad 0)), (1, .int x1), (2, .int x2), (3, .int x3)]) rfl ?_
  refine a_aload_n (pc := 0) C dX7_arcs_0 0 rfl ?_
  refine a_iload_n (pc := 1) C dX7_arcs_1 1 rfl ?_
  refine a_iload_n (pc := 2) C dX7_arcs_2 2 rfl ?_
  refine a_iload_n (pc := 3) C dX7_arcs_3 3 rfl ?_
  refine a_callV_Ir (pc := 4) (d' := 4) C dX7_arcs_4 ml_X7_228 mc_X7_refusalOfColouring mv_X7_refusalOfColouring tx_0 rfl [.int x1, .int x2, .int x3] rfl (Nat.le_of_ble_eq_true rfl) (Nat.le_of_ble_eq_true rfl) rfl (Nat.le_of_ble_eq_true rfl) (fun r h => c_X7_refusalOfColouring N x1 x2 x3  _  r h) hf (fun v1 hf => ?_)
  refine a_istore (pc := 7) [(4, .int v1), (0, .ref (ad 0)), (1, .int x1), (2, .int x2), (3, .int x3)] C dX7_arcs_7 (by decide) rfl ?_
  refine a_iload (pc := 9) C dX7_arcs_9 0 rfl ?_
  refine a_if_ge (pc := 11) 17 C dX7_arcs_11 (by decide) hf (fun hf => ?_) (fun hf => ?_)
  · refine a_aload_n (pc := 17) C dX7_arcs_17 1 rfl ?_
    refine a_aload_n (pc := 18) C dX7_arcs_18 1 rfl ?_
    refine a_getR (pc := 19) C dX7_arcs_19 fl_X7_59 tx_0 rfl ?_
    refine a_iload_n (pc := 22) C dX7_arcs_22 2 rfl ?_
    have hx3 := (ck_some hf).1
    refine a_aald (pc := 23) C dX7_arcs_23 tx_39 rfl hf (fun hf => ?_)
    refine a_iload_n (pc := 24) C dX7_arcs_24 3 rfl ?_
    refine a_iload_n (pc := 25) C dX7_arcs_25 4 rfl ?_
    refine a_iconst (pc := 26) (v := 1) C dX7_arcs_26 (by decide) ?_
    refine a_callV_Ir (pc := 27) (d' := 3) C dX7_arcs_27 ml_X7_231 mc_X7_tightLines mv_X7_tightLines tx_0 rfl [.ref (ad (sheetC x1.toNatClampNeg)), .int x2, .int x3, .int (1 : Int32)] rfl (Nat.le_of_ble_eq_true rfl) (Nat.le_of_ble_eq_true rfl) rfl (Nat.le_of_ble_eq_true rfl) (fun r h => c_X7_tightLines N (sheetC x1.toNatClampNeg) x2 x3 (1 : Int32) (sheet_at hx3) _  r h) hf (fun v4 hf => ?_)
    refine a_callS_Ir (pc := 30) (d' := 1) C dX7_arcs_30 ml_X7_235 mc_J6_bitCount_0f7a4 ms_J6_bitCount_0f7a4 [.int v4] rfl (Nat.le_of_ble_eq_true rfl) (Nat.le_of_ble_eq_true rfl) rfl (Nat.le_of_ble_eq_true rfl) (fun r h => c_J6_bitCount_0f7a4 N v4  _  r h) hf (fun v6 hf => ?_)
    refine a_aload_n (pc := 33) C dX7_arcs_33 1 rfl ?_
    refine a_aload_n (pc := 34) C dX7_arcs_34 1 rfl ?_
    refine a_getR (pc := 35) C dX7_arcs_35 fl_X7_59 tx_0 rfl ?_
    refine a_iload_n (pc := 38) C dX7_arcs_38 2 rfl ?_
    have hx8 := (ck_some hf).1
    refine a_aald (pc := 39) C dX7_arcs_39 tx_39 rfl hf (fun hf => ?_)
    refine a_iload_n (pc := 40) C dX7_arcs_40 3 rfl ?_
    refine a_iload_n (pc := 41) C dX7_arcs_41 4 rfl ?_
    refine a_iconst (pc := 42) (v := 0) C dX7_arcs_42 (by decide) ?_
    refine a_callV_Ir (pc := 43) (d' := 3) C dX7_arcs_43 ml_X7_231 mc_X7_tightLines mv_X7_tightLines tx_0 rfl [.ref (ad (sheetC x1.toNatClampNeg)), .int x2, .int x3, .int (0 : Int32)] rfl (Nat.le_of_ble_eq_true rfl) (Nat.le_of_ble_eq_true rfl) rfl (Nat.le_of_ble_eq_true rfl) (fun r h => c_X7_tightLines N (sheetC x1.toNatClampNeg) x2 x3 (0 : Int32) (sheet_at hx8) _  r h) hf (fun v9 hf => ?_)
    refine a_callS_Ir (pc := 46) (d' := 1) C dX7_arcs_46 ml_X7_235 mc_J6_bitCount_0f7a4 ms_J6_bitCount_0f7a4 [.int v9] rfl (Nat.le_of_ble_eq_true rfl) (Nat.le_of_ble_eq_true rfl) rfl (Nat.le_of_ble_eq_true rfl) (fun r h => c_J6_bitCount_0f7a4 N v9  _  r h) hf (fun v11 hf => ?_)
    refine a_iadd (pc := 49) C dX7_arcs_49 ?_
    exact a_iret (pc := 50) C dX7_arcs_50 (Option.some.inj hf) rfl
  · refine a_iload (pc := 14) C dX7_arcs_14 0 rfl ?_
    exact a_iret (pc := 16) C dX7_arcs_16 (Option.some.inj hf) rfl
theorem dX7_tight_0 : decode cX7_tight 0 = .ok (.iload 4, 2) := by decide +kernel
theorem dX7_tight_2 : decode cX7_tight 2 = .ok (.iconst 0, 1) := by decide +kernel
theorem dX7_tight_3 : decode cX7_tight 3 = .ok (.iconst 1, 1) := by decide +kernel
theorem dX7_tight_4 : decode cX7_tight 4 = .ok (.invokestatic 64, 3) := by decide +kernel
theorem dX7_tight_7 : decode cX7_tight 7 = .ok (.ifCond .ne 6, 3) := by decide +kernel
theorem dX7_tight_10 : decode cX7_tight 10 = .ok (.bipush (-2), 2) := by decide +kernel
theorem dX7_tight_12 : decode cX7_tight 12 = .ok (.ireturn, 1) := by decide +kernel
theorem dX7_tight_13 : decode cX7_tight 13 = .ok (.aload_n 0, 1) := by decide +kernel
theorem dX7_tight_14 : decode cX7_tight 14 = .ok (.iload_n 1, 1) := by decide +kernel
theorem dX7_tight_15 : decode cX7_tight 15 = .ok (.iload_n 2, 1) := by decide +kernel
theorem dX7_tight_16 : decode cX7_tight 16 = .ok (.iload_n 3, 1) := by decide +kernel
theorem dX7_tight_17 : decode cX7_tight 17 = .ok (.invokevirtual 228, 3) := by decide +kernel
theorem dX7_tight_20 : decode cX7_tight 20 = .ok (.istore 5, 2) := by decide +kernel
theorem dX7_tight_22 : decode cX7_tight 22 = .ok (.iload 5, 2) := by decide +kernel
theorem dX7_tight_24 : decode cX7_tight 24 = .ok (.ifCond .ge 6, 3) := by decide +kernel
theorem dX7_tight_27 : decode cX7_tight 27 = .ok (.iload 5, 2) := by decide +kernel
theorem dX7_tight_29 : decode cX7_tight 29 = .ok (.ireturn, 1) := by decide +kernel
theorem dX7_tight_30 : decode cX7_tight 30 = .ok (.aload_n 0, 1) := by decide +kernel
theorem dX7_tight_31 : decode cX7_tight 31 = .ok (.getfield 25, 3) := by decide +kernel
theorem dX7_tight_34 : decode cX7_tight 34 = .ok (.aload_n 0, 1) := by decide +kernel
theorem dX7_tight_35 : decode cX7_tight 35 = .ok (.getfield 12, 3) := by decide +kernel
theorem dX7_tight_38 : decode cX7_tight 38 = .ok (.invokevirtual 175, 3) := by decide +kernel
theorem dX7_tight_41 : decode cX7_tight 41 = .ok (.aload_n 0, 1) := by decide +kernel
theorem dX7_tight_42 : decode cX7_tight 42 = .ok (.getfield 25, 3) := by decide +kernel
theorem dX7_tight_45 : decode cX7_tight 45 = .ok (.aload_n 0, 1) := by decide +kernel
theorem dX7_tight_46 : decode cX7_tight 46 = .ok (.aload_n 0, 1) := by decide +kernel
theorem dX7_tight_47 : decode cX7_tight 47 = .ok (.getfield 59, 3) := by decide +kernel
theorem dX7_tight_50 : decode cX7_tight 50 = .ok (.iload_n 1, 1) := by decide +kernel
theorem dX7_tight_51 : decode cX7_tight 51 = .ok (.aaload, 1) := by decide +kernel
theorem dX7_tight_52 : decode cX7_tight 52 = .ok (.iload_n 2, 1) := by decide +kernel
theorem dX7_tight_53 : decode cX7_tight 53 = .ok (.iload_n 3, 1) := by decide +kernel
theorem dX7_tight_54 : decode cX7_tight 54 = .ok (.iconst 1, 1) := by decide +kernel
theorem dX7_tight_55 : decode cX7_tight 55 = .ok (.invokevirtual 231, 3) := by decide +kernel
theorem dX7_tight_58 : decode cX7_tight 58 = .ok (.aload_n 0, 1) := by decide +kernel
theorem dX7_tight_59 : decode cX7_tight 59 = .ok (.aload_n 0, 1) := by decide +kernel
theorem dX7_tight_60 : decode cX7_tight 60 = .ok (.getfield 59, 3) := by decide +kernel
theorem dX7_tight_63 : decode cX7_tight 63 = .ok (.iload_n 1, 1) := by decide +kernel
theorem dX7_tight_64 : decode cX7_tight 64 = .ok (.aaload, 1) := by decide +kernel
theorem dX7_tight_65 : decode cX7_tight 65 = .ok (.iload_n 2, 1) := by decide +kernel
theorem dX7_tight_66 : decode cX7_tight 66 = .ok (.iload_n 3, 1) := by decide +kernel
theorem dX7_tight_67 : decode cX7_tight 67 = .ok (.iconst 0, 1) := by decide +kernel
theorem dX7_tight_68 : decode cX7_tight 68 = .ok (.invokevirtual 231, 3) := by decide +kernel
theorem dX7_tight_71 : decode cX7_tight 71 = .ok (.invokevirtual 240, 3) := by decide +kernel
theorem dX7_tight_74 : decode cX7_tight 74 = .ok (.istore 6, 2) := by decide +kernel
theorem dX7_tight_76 : decode cX7_tight 76 = .ok (.iload 6, 2) := by decide +kernel
theorem dX7_tight_78 : decode cX7_tight 78 = .ok (.ifCond .ge 5, 3) := by decide +kernel
theorem dX7_tight_81 : decode cX7_tight 81 = .ok (.iconst (-1), 1) := by decide +kernel
theorem dX7_tight_82 : decode cX7_tight 82 = .ok (.ireturn, 1) := by decide +kernel
theorem dX7_tight_83 : decode cX7_tight 83 = .ok (.iload 4, 2) := by decide +kernel
theorem dX7_tight_85 : decode cX7_tight 85 = .ok (.ifCond .ne 16, 3) := by decide +kernel
theorem dX7_tight_88 : decode cX7_tight 88 = .ok (.aload_n 0, 1) := by decide +kernel
theorem dX7_tight_89 : decode cX7_tight 89 = .ok (.getfield 25, 3) := by decide +kernel
theorem dX7_tight_92 : decode cX7_tight 92 = .ok (.getfield 179, 3) := by decide +kernel
theorem dX7_tight_95 : decode cX7_tight 95 = .ok (.iload 6, 2) := by decide +kernel
theorem dX7_tight_97 : decode cX7_tight 97 = .ok (.iaload, 1) := by decide +kernel
theorem dX7_tight_98 : decode cX7_tight 98 = .ok (.goto 17, 3) := by decide +kernel
theorem dX7_tight_101 : decode cX7_tight 101 = .ok (.iload_n 3, 1) := by decide +kernel
theorem dX7_tight_102 : decode cX7_tight 102 = .ok (.aload_n 0, 1) := by decide +kernel
theorem dX7_tight_103 : decode cX7_tight 103 = .ok (.getfield 25, 3) := by decide +kernel
theorem dX7_tight_106 : decode cX7_tight 106 = .ok (.getfield 185, 3) := by decide +kernel
theorem dX7_tight_109 : decode cX7_tight 109 = .ok (.iload 6, 2) := by decide +kernel
theorem dX7_tight_111 : decode cX7_tight 111 = .ok (.iaload, 1) := by decide +kernel
theorem dX7_tight_112 : decode cX7_tight 112 = .ok (.imul, 1) := by decide +kernel
theorem dX7_tight_113 : decode cX7_tight 113 = .ok (.iload_n 2, 1) := by decide +kernel
theorem dX7_tight_114 : decode cX7_tight 114 = .ok (.idiv, 1) := by decide +kernel
theorem dX7_tight_115 : decode cX7_tight 115 = .ok (.ireturn, 1) := by decide +kernel
def f_X7_tight (N : Nat) (x1 : Int32) (x2 : Int32) (x3 : Int32) (x4 : Int32) (M : Mem) : Option (Int32 × Mem) := bd (f_X7_within N x4 (0 : Int32) (1 : Int32) M) (fun v1 => if v1 = 0 then (some ((-2 : Int32), M)) else (bd (f_X7_refusalOfColouring N x1 x2 x3 M) (fun v3 => if 0 ≤ v3 then (bd (f_X4_findRings N 1 M) (fun M6 => ck (inb x1 4) (bd (f_X7_tightLines N (sheetC x1.toNatClampNeg) x2 x3 (1 : Int32) M6) (fun v8 => ck (inb x1 4) (bd (f_X7_tightLines N (sheetC x1.toNatClampNeg) x2 x3 (0 : Int32) M6) (fun v11 => bd (f_X4_leastTight N v8 v11 M6) (fun v13 => if 0 ≤ v13 then (if x4 = 0 then (ck (inb v13 64) (some ((M6.1 20 v13.toNatClampNeg), M6))) else (ck (inb v13 64) (ck (¬ x2 = 0) (some (((x3 * (M6.1 21 v13.toNatClampNeg)) / x2), M6))))) else (some ((-1 : Int32), M6))))))))) else (some (v3, M)))))
set_option maxRecDepth 100000 in
set_option maxHeartbeats 4000000 in
theorem c_X7_tight {l : Launch} {D : va_G} {ac : Nat → ClassId} {A : Nat → Prop} {ad : Nat → Nat} {rest : va_W} (N : Nat) (x1 : Int32) (x2 : Int32) (x3 : Int32) (x4 : Int32)  (M : Mem) (r0 : Int32) (M0 : Mem) (hf : f_X7_tight N x1 x2 x3 x4 M = some (r0, M0)) : CtI l D ac A tabX ad rest yX7_tight cX7_tight 7 .int 5 [.ref (ad 0), .int x1, .int x2, .int x3, .int x4] M r0 M0 := by
  refine ct_ofI (own := RX7) (by decide +kernel) rfl (Nat.le_of_ble_eq_true rfl) ?_
  intro p e s m args below meth c C
  unfold f_X7_tight at hf
  refine a_L (L' := [(0, .ref (ad 0)), (1, .int x1), (2, .int x2), (3, .int x3), (4, .int x4)]) rfl ?_
  refine a_iload (pc := 0) C dX7_tight_0 4 rfl ?_
  refine a_iconst (pc := 2) (v := 0) C dX7_tight_2 (by decide) ?_
  refine a_iconst (pc := 3) (v := 1) C dX7_tight_3 (by decide) ?_
  refine a_callS_Ir (pc := 4) (d' := 1) C dX7_tight_4 ml_X7_64 mc_X7_within ms_X7_within [.int x4, .int (0 : Int32), .int (1 : Int32)] rfl (Nat.le_of_ble_eq_true rfl) (Nat.le_of_ble_eq_true rfl) rfl (Nat.le_of_ble_eq_true rfl) (fun r h => c_X7_within N x4 (0 : Int32) (1 : Int32)  _  r h) hf (fun v1 hf => ?_)
  refine a_if_ne (pc := 7) 13 C dX7_tight_7 (by decide) hf (fun hf => ?_) (fun hf => ?_)
  · refine a_aload_n (pc := 13) C dX7_tight_13 0 rfl ?_
    refine a_iload_n (pc := 14) C dX7_tight_14 1 rfl ?_
    refine a_iload_n (pc := 15) C dX7_tight_15 2 rfl ?_
    refine a_iload_n (pc := 16) C dX7_tight_16 3 rfl ?_
    refine a_callV_Ir (pc := 17) (d' := 4) C dX7_tight_17 ml_X7_228 mc_X7_refusalOfColouring mv_X7_refusalOfColouring tx_0 rfl [.int x1, .int x2, .int x3] rfl (Nat.le_of_ble_eq_true rfl) (Nat.le_of_ble_eq_true rfl) rfl (Nat.le_of_ble_eq_true rfl) (fun r h => c_X7_refusalOfColouring N x1 x2 x3  _  r h) hf (fun v3 hf => ?_)
    refine a_istore (pc := 20) [(5, .int v3), (0, .ref (ad 0)), (1, .int x1), (2, .int x2), (3, .int x3), (4, .int x4)] C dX7_tight_20 (by decide) rfl ?_
    refine a_iload (pc := 22) C dX7_tight_22 0 rfl ?_
    refine a_if_ge (pc := 24) 30 C dX7_tight_24 (by decide) hf (fun hf => ?_) (fun hf => ?_)
    · refine a_aload_n (pc := 30) C dX7_tight_30 1 rfl ?_
      refine a_getR (pc := 31) C dX7_tight_31 fl_X7_25 tx_0 rfl ?_
      refine a_aload_n (pc := 34) C dX7_tight_34 1 rfl ?_
      refine a_getR (pc := 35) C dX7_tight_35 fl_X7_12 tx_0 rfl ?_
      refine a_callV_V (pc := 38) (d' := 4) C dX7_tight_38 ml_X7_175 mc_X4_findRings mv_X4_findRings tx_19 rfl [.ref (ad 1)] rfl (Nat.le_of_ble_eq_true rfl) (Nat.le_of_ble_eq_true rfl) rfl (Nat.le_of_ble_eq_true rfl) (fun M' h => c_X4_findRings N 1 net_1 _  M' h) hf (fun M6 hf => ?_)
      refine a_aload_n (pc := 41) C dX7_tight_41 1 rfl ?_
      refine a_getR (pc := 42) C dX7_tight_42 fl_X7_25 tx_0 rfl ?_
      refine a_aload_n (pc := 45) C dX7_tight_45 1 rfl ?_
      refine a_aload_n (pc := 46) C dX7_tight_46 1 rfl ?_
      refine a_getR (pc := 47) C dX7_tight_47 fl_X7_59 tx_0 rfl ?_
      refine a_iload_n (pc := 50) C dX7_tight_50 2 rfl ?_
      have hx7 := (ck_some hf).1
      refine a_aald (pc := 51) C dX7_tight_51 tx_39 rfl hf (fun hf => ?_)
      refine a_iload_n (pc := 52) C dX7_tight_52 3 rfl ?_
      refine a_iload_n (pc := 53) C dX7_tight_53 4 rfl ?_
      refine a_iconst (pc := 54) (v := 1) C dX7_tight_54 (by decide) ?_
      refine a_callV_Ir (pc := 55) (d' := 3) C dX7_tight_55 ml_X7_231 mc_X7_tightLines mv_X7_tightLines tx_0 rfl [.ref (ad (sheetC x1.toNatClampNeg)), .int x2, .int x3, .int (1 : Int32)] rfl (Nat.le_of_ble_eq_true rfl) (Nat.le_of_ble_eq_true rfl) rfl (Nat.le_of_ble_eq_true rfl) (fun r h => c_X7_tightLines N (sheetC x1.toNatClampNeg) x2 x3 (1 : Int32) (sheet_at hx7) _  r h) hf (fun v8 hf => ?_)
      refine a_aload_n (pc := 58) C dX7_tight_58 1 rfl ?_
      refine a_aload_n (pc := 59) C dX7_tight_59 1 rfl ?_
      refine a_getR (pc := 60) C dX7_tight_60 fl_X7_59 tx_0 rfl ?_
      refine a_iload_n (pc := 63) C dX7_tight_63 2 rfl ?_
      have hx10 := (ck_some hf).1
      refine a_aald (pc := 64) C dX7_tight_64 tx_39 rfl hf (fun hf => ?_)
      refine a_iload_n (pc := 65) C dX7_tight_65 3 rfl ?_
      refine a_iload_n (pc := 66) C dX7_tight_66 4 rfl ?_
      refine a_iconst (pc := 67) (v := 0) C dX7_tight_67 (by decide) ?_
      refine a_callV_Ir (pc := 68) (d' := 3) C dX7_tight_68 ml_X7_231 mc_X7_tightLines mv_X7_tightLines tx_0 rfl [.ref (ad (sheetC x1.toNatClampNeg)), .int x2, .int x3, .int (0 : Int32)] rfl (Nat.le_of_ble_eq_true rfl) (Nat.le_of_ble_eq_true rfl) rfl (Nat.le_of_ble_eq_true rfl) (fun r h => c_X7_tightLines N (sheetC x1.toNatClampNeg) x2 x3 (0 : Int32) (sheet_at hx10) _  r h) hf (fun v11 hf => ?_)
      refine a_callV_Ir (pc := 71) (d' := 1) C dX7_tight_71 ml_X7_240 mc_X4_leastTight mv_X4_leastTight tx_19 rfl [.int v8, .int v11] rfl (Nat.le_of_ble_eq_true rfl) (Nat.le_of_ble_eq_true rfl) rfl (Nat.le_of_ble_eq_true rfl) (fun r h => c_X4_leastTight N v8 v11  _  r h) hf (fun v13 hf => ?_)
      refine a_istore (pc := 74) [(6, .int v13), (5, .int v3), (0, .ref (ad 0)), (1, .int x1), (2, .int x2), (3, .int x3), (4, .int x4)] C dX7_tight_74 (by decide) rfl ?_
      refine a_iload (pc := 76) C dX7_tight_76 0 rfl ?_
      refine a_if_ge (pc := 78) 83 C dX7_tight_78 (by decide) hf (fun hf => ?_) (fun hf => ?_)
      · refine a_iload (pc := 83) C dX7_tight_83 6 rfl ?_
        refine a_if_ne (pc := 85) 101 C dX7_tight_85 (by decide) hf (fun hf => ?_) (fun hf => ?_)
        · refine a_iload_n (pc := 101) C dX7_tight_101 5 rfl ?_
          refine a_aload_n (pc := 102) C dX7_tight_102 2 rfl ?_
          refine a_getR (pc := 103) C dX7_tight_103 fl_X7_25 tx_0 rfl ?_
          refine a_getR (pc := 106) C dX7_tight_106 fl_X7_185 tx_19 rfl ?_
          refine a_iload (pc := 109) C dX7_tight_109 0 rfl ?_
          refine a_iald (pc := 111) C dX7_tight_111 tx_21 hf (fun hf => ?_)
          refine a_imul (pc := 112) C dX7_tight_112 ?_
          refine a_iload_n (pc := 113) C dX7_tight_113 4 rfl ?_
          refine a_idiv (pc := 114) C dX7_tight_114 hf (fun hf => ?_)
          exact a_iret (pc := 115) C dX7_tight_115 (so_1 hf) (so_2 hf)
        · refine a_aload_n (pc := 88) C dX7_tight_88 2 rfl ?_
          refine a_getR (pc := 89) C dX7_tight_89 fl_X7_25 tx_0 rfl ?_
          refine a_getR (pc := 92) C dX7_tight_92 fl_X7_179 tx_19 rfl ?_
          refine a_iload (pc := 95) C dX7_tight_95 0 rfl ?_
          refine a_iald (pc := 97) C dX7_tight_97 tx_20 hf (fun hf => ?_)
          refine a_goto (pc := 98) 115 C dX7_tight_98 (by decide) ?_
          exact a_iret (pc := 115) C dX7_tight_115 (so_1 hf) (so_2 hf)
      · refine a_iconst (pc := 81) (v := (-1)) C dX7_tight_81 (by decide) ?_
        exact a_iret (pc := 82) C dX7_tight_82 (so_1 hf) (so_2 hf)
    · refine a_iload (pc := 27) C dX7_tight_27 0 rfl ?_
      exact a_iret (pc := 29) C dX7_tight_29 (so_1 hf) (so_2 hf)
  · refine a_bipush (pc := 10) (v := (-2)) C dX7_tight_10 (by decide) ?_
    exact a_iret (pc := 12) C dX7_tight_12 (so_1 hf) (so_2 hf)
theorem dX7_rounds_0 : decode cX7_rounds 0 = .ok (.iload 4, 2) := by decide +kernel
theorem dX7_rounds_2 : decode cX7_rounds 2 = .ok (.invokestatic 243, 3) := by decide +kernel
theorem dX7_rounds_5 : decode cX7_rounds 5 = .ok (.ifCond .ne 6, 3) := by decide +kernel
theorem dX7_rounds_8 : decode cX7_rounds 8 = .ok (.bipush (-2), 2) := by decide +kernel
theorem dX7_rounds_10 : decode cX7_rounds 10 = .ok (.ireturn, 1) := by decide +kernel
theorem dX7_rounds_11 : decode cX7_rounds 11 = .ok (.aload_n 0, 1) := by decide +kernel
theorem dX7_rounds_12 : decode cX7_rounds 12 = .ok (.iload_n 1, 1) := by decide +kernel
theorem dX7_rounds_13 : decode cX7_rounds 13 = .ok (.iload_n 2, 1) := by decide +kernel
theorem dX7_rounds_14 : decode cX7_rounds 14 = .ok (.iload_n 3, 1) := by decide +kernel
theorem dX7_rounds_15 : decode cX7_rounds 15 = .ok (.invokevirtual 228, 3) := by decide +kernel
theorem dX7_rounds_18 : decode cX7_rounds 18 = .ok (.istore 5, 2) := by decide +kernel
theorem dX7_rounds_20 : decode cX7_rounds 20 = .ok (.iload 5, 2) := by decide +kernel
theorem dX7_rounds_22 : decode cX7_rounds 22 = .ok (.ifCond .ge 6, 3) := by decide +kernel
theorem dX7_rounds_25 : decode cX7_rounds 25 = .ok (.iload 5, 2) := by decide +kernel
theorem dX7_rounds_27 : decode cX7_rounds 27 = .ok (.ireturn, 1) := by decide +kernel
theorem dX7_rounds_28 : decode cX7_rounds 28 = .ok (.aload_n 0, 1) := by decide +kernel
theorem dX7_rounds_29 : decode cX7_rounds 29 = .ok (.getfield 59, 3) := by decide +kernel
theorem dX7_rounds_32 : decode cX7_rounds 32 = .ok (.iload 4, 2) := by decide +kernel
theorem dX7_rounds_34 : decode cX7_rounds 34 = .ok (.aaload, 1) := by decide +kernel
theorem dX7_rounds_35 : decode cX7_rounds 35 = .ok (.astore 6, 2) := by decide +kernel
theorem dX7_rounds_37 : decode cX7_rounds 37 = .ok (.iconst 0, 1) := by decide +kernel
theorem dX7_rounds_38 : decode cX7_rounds 38 = .ok (.istore 7, 2) := by decide +kernel
theorem dX7_rounds_40 : decode cX7_rounds 40 = .ok (.iload 7, 2) := by decide +kernel
theorem dX7_rounds_42 : decode cX7_rounds 42 = .ok (.aload_n 0, 1) := by decide +kernel
theorem dX7_rounds_43 : decode cX7_rounds 43 = .ok (.getfield 12, 3) := by decide +kernel
theorem dX7_rounds_46 : decode cX7_rounds 46 = .ok (.getfield 68, 3) := by decide +kernel
theorem dX7_rounds_49 : decode cX7_rounds 49 = .ok (.if_icmp .ge 32, 3) := by decide +kernel
theorem dX7_rounds_52 : decode cX7_rounds 52 = .ok (.aload 6, 2) := by decide +kernel
theorem dX7_rounds_54 : decode cX7_rounds 54 = .ok (.getfield 246, 3) := by decide +kernel
theorem dX7_rounds_57 : decode cX7_rounds 57 = .ok (.iload 7, 2) := by decide +kernel
theorem dX7_rounds_59 : decode cX7_rounds 59 = .ok (.aload_n 0, 1) := by decide +kernel
theorem dX7_rounds_60 : decode cX7_rounds 60 = .ok (.getfield 59, 3) := by decide +kernel
theorem dX7_rounds_63 : decode cX7_rounds 63 = .ok (.iload_n 1, 1) := by decide +kernel
theorem dX7_rounds_64 : decode cX7_rounds 64 = .ok (.aaload, 1) := by decide +kernel
theorem dX7_rounds_65 : decode cX7_rounds 65 = .ok (.getfield 246, 3) := by decide +kernel
theorem dX7_rounds_68 : decode cX7_rounds 68 = .ok (.iload 7, 2) := by decide +kernel
theorem dX7_rounds_70 : decode cX7_rounds 70 = .ok (.laload, 1) := by decide +kernel
theorem dX7_rounds_71 : decode cX7_rounds 71 = .ok (.iload_n 3, 1) := by decide +kernel
theorem dX7_rounds_72 : decode cX7_rounds 72 = .ok (.i2l, 1) := by decide +kernel
theorem dX7_rounds_73 : decode cX7_rounds 73 = .ok (.ldiv, 1) := by decide +kernel
theorem dX7_rounds_74 : decode cX7_rounds 74 = .ok (.lastore, 1) := by decide +kernel
theorem dX7_rounds_75 : decode cX7_rounds 75 = .ok (.iinc 7 1, 3) := by decide +kernel
theorem dX7_rounds_78 : decode cX7_rounds 78 = .ok (.goto (-38), 3) := by decide +kernel
theorem dX7_rounds_81 : decode cX7_rounds 81 = .ok (.aload 6, 2) := by decide +kernel
theorem dX7_rounds_83 : decode cX7_rounds 83 = .ok (.iconst 0, 1) := by decide +kernel
theorem dX7_rounds_84 : decode cX7_rounds 84 = .ok (.putfield 249, 3) := by decide +kernel
theorem dX7_rounds_87 : decode cX7_rounds 87 = .ok (.aload 6, 2) := by decide +kernel
theorem dX7_rounds_89 : decode cX7_rounds 89 = .ok (.aload_n 0, 1) := by decide +kernel
theorem dX7_rounds_90 : decode cX7_rounds 90 = .ok (.getfield 12, 3) := by decide +kernel
theorem dX7_rounds_93 : decode cX7_rounds 93 = .ok (.getfield 68, 3) := by decide +kernel
theorem dX7_rounds_96 : decode cX7_rounds 96 = .ok (.putfield 252, 3) := by decide +kernel
theorem dX7_rounds_99 : decode cX7_rounds 99 = .ok (.iload_n 2, 1) := by decide +kernel
theorem dX7_rounds_100 : decode cX7_rounds 100 = .ok (.iload_n 3, 1) := by decide +kernel
theorem dX7_rounds_101 : decode cX7_rounds 101 = .ok (.iadd, 1) := by decide +kernel
theorem dX7_rounds_102 : decode cX7_rounds 102 = .ok (.iconst 1, 1) := by decide +kernel
theorem dX7_rounds_103 : decode cX7_rounds 103 = .ok (.isub, 1) := by decide +kernel
theorem dX7_rounds_104 : decode cX7_rounds 104 = .ok (.iload_n 3, 1) := by decide +kernel
theorem dX7_rounds_105 : decode cX7_rounds 105 = .ok (.idiv, 1) := by decide +kernel
theorem dX7_rounds_106 : decode cX7_rounds 106 = .ok (.ireturn, 1) := by decide +kernel
def f_X7_rounds (N : Nat) (x1 : Int32) (x2 : Int32) (x3 : Int32) (x4 : Int32) (M : Mem) : Option (Int32 × Mem) := bd (f_X7_isSheet N x4 M) (fun v1 => if v1 = 0 then (some ((-2 : Int32), M)) else (bd (f_X7_refusalOfColouring N x1 x2 x3 M) (fun v3 => if 0 ≤ v3 then (ck (inb x4 4) (lp (fun (k40 : (Int32 × Mem) → Option (Int32 × Mem)) (a40 : Int32 × Mem) => if (a40.2.1 1 0) ≤ a40.1 then (nm (setI a40.2 (sheetC x4.toNatClampNeg) 0 (0 : Int32)) (fun M6 => nm (setI M6 (sheetC x4.toNatClampNeg) 1 (M6.1 1 0)) (fun M7 => ck (¬ x3 = 0) (some ((((x2 + x3) - (1 : Int32)) / x3), M7))))) else (ck (inb x1 4) (ck (inb a40.1 40) (ck (¬ x3.toInt64 = 0) (ck (inb a40.1 40) (nm (setJ a40.2 ((sheetC x4.toNatClampNeg) + 1) a40.1.toNatClampNeg ((a40.2.2 ((sheetC x1.toNatClampNeg) + 1) a40.1.toNatClampNeg) / x3.toInt64)) (fun M9 => nm (a40.1 + (1 : Int32)) (fun v10 => k40 (v10, M9))))))))) N ((0 : Int32), M))) else (some (v3, M)))))
set_option maxRecDepth 100000 in
set_option maxHeartbeats 4000000 in
theorem c_X7_rounds {l : Launch} {D : va_G} {ac : Nat → ClassId} {A : Nat → Prop} {ad : Nat → Nat} {rest : va_W} (N : Nat) (x1 : Int32) (x2 : Int32) (x3 : Int32) (x4 : Int32)  (M : Mem) (r0 : Int32) (M0 : Mem) (hf : f_X7_rounds N x1 x2 x3 x4 M = some (r0, M0)) : CtI l D ac A tabX ad rest yX7_rounds cX7_rounds 8 .int 5 [.ref (ad 0), .int x1, .int x2, .int x3, .int x4] M r0 M0 := by
  refine ct_ofI (own := RX7) (by decide +kernel) rfl (Nat.le_of_ble_eq_true rfl) ?_
  intro p e s m args below meth c C
  unfold f_X7_rounds at hf
  refine a_L (L' := [(0, .ref (ad 0)), (1, .int x1), (2, .int x2), (3, .int x3), (4, .int x4)]) rfl ?_
  refine a_iload (pc := 0) C dX7_rounds_0 4 rfl ?_
  refine a_callS_Ir (pc := 2) (d' := 2) C dX7_rounds_2 ml_X7_243 mc_X7_isSheet ms_X7_isSheet [.int x4] rfl (Nat.le_of_ble_eq_true rfl) (Nat.le_of_ble_eq_true rfl) rfl (Nat.le_of_ble_eq_true rfl) (fun r h => c_X7_isSheet N x4  _  r h) hf (fun v1 hf => ?_)
  refine a_if_ne (pc := 5) 11 C dX7_rounds_5 (by decide) hf (fun hf => ?_) (fun hf => ?_)
  · refine a_aload_n (pc := 11) C dX7_rounds_11 0 rfl ?_
    refine a_iload_n (pc := 12) C dX7_rounds_12 1 rfl ?_
    refine a_iload_n (pc := 13) C dX7_rounds_13 2 rfl ?_
    refine a_iload_n (pc := 14) C dX7_rounds_14 3 rfl ?_
    refine a_callV_Ir (pc := 15) (d' := 4) C dX7_rounds_15 ml_X7_228 mc_X7_refusalOfColouring mv_X7_refusalOfColouring tx_0 rfl [.int x1, .int x2, .int x3] rfl (Nat.le_of_ble_eq_true rfl) (Nat.le_of_ble_eq_true rfl) rfl (Nat.le_of_ble_eq_true rfl) (fun r h => c_X7_refusalOfColouring N x1 x2 x3  _  r h) hf (fun v3 hf => ?_)
    refine a_istore (pc := 18) [(5, .int v3), (0, .ref (ad 0)), (1, .int x1), (2, .int x2), (3, .int x3), (4, .int x4)] C dX7_rounds_18 (by decide) rfl ?_
    refine a_iload (pc := 20) C dX7_rounds_20 0 rfl ?_
    refine a_if_ge (pc := 22) 28 C dX7_rounds_22 (by decide) hf (fun hf => ?_) (fun hf => ?_)
    · refine a_aload_n (pc := 28) C dX7_rounds_28 1 rfl ?_
      refine a_getR (pc := 29) C dX7_rounds_29 fl_X7_59 tx_0 rfl ?_
      refine a_iload (pc := 32) C dX7_rounds_32 5 rfl ?_
      have hx5 := (ck_some hf).1
      refine a_aald (pc := 34) C dX7_rounds_34 tx_39 rfl hf (fun hf => ?_)
      refine a_astore (pc := 35) [(6, .ref (ad (sheetC x4.toNatClampNeg))), (5, .int v3), (0, .ref (ad 0)), (1, .int x1), (2, .int x2), (3, .int x3), (4, .int x4)] C dX7_rounds_35 (by decide) rfl ?_
      refine a_iconst (pc := 37) (v := 0) C dX7_rounds_37 (by decide) ?_
      refine a_istore (pc := 38) [(7, .int (0 : Int32)), (6, .ref (ad (sheetC x4.toNatClampNeg))), (5, .int v3), (0, .ref (ad 0)), (1, .int x1), (2, .int x2), (3, .int x3), (4, .int x4)] C dX7_rounds_38 (by decide) rfl ?_
      refine a_sub [3, 4, 5, 6, 1, 0] rfl ?_
      refine a_lp 40 (fun a40 : Int32 × Mem => [(0, .ref (ad 0)), (1, .int x1), (2, .int x2), (3, .int x3), (6, .ref (ad (sheetC x4.toNatClampNeg))), (7, .int a40.1)]) (fun a40 : Int32 × Mem => []) (fun a40 : Int32 × Mem => a40.2) (fun k40 a40 hk40 hf => ?_) N ((0 : Int32), M) hf
      refine a_iload (pc := 40) C dX7_rounds_40 5 rfl ?_
      refine a_aload_n (pc := 42) C dX7_rounds_42 0 rfl ?_
      refine a_getR (pc := 43) C dX7_rounds_43 fl_X7_12 tx_0 rfl ?_
      refine a_getI (pc := 46) C dX7_rounds_46 fl_X7_68 net_1.1 rfl ?_
      refine a_icmp_ge (pc := 49) 81 C dX7_rounds_49 (by decide) hf (fun hf => ?_) (fun hf => ?_)
      · refine a_aload (pc := 81) C dX7_rounds_81 4 rfl ?_
        refine a_iconst (pc := 83) (v := 0) C dX7_rounds_83 (by decide) ?_
        refine a_putI (pc := 84) C dX7_rounds_84 fl_X7_249 (sheet_at hx5).1 rfl hf (fun M6 hf => ?_)
        refine a_aload (pc := 87) C dX7_rounds_87 4 rfl ?_
        refine a_aload_n (pc := 89) C dX7_rounds_89 0 rfl ?_
        refine a_getR (pc := 90) C dX7_rounds_90 fl_X7_12 tx_0 rfl ?_
        refine a_getI (pc := 93) C dX7_rounds_93 fl_X7_68 net_1.1 rfl ?_
        refine a_putI (pc := 96) C dX7_rounds_96 fl_X7_252 (sheet_at hx5).1 rfl hf (fun M7 hf => ?_)
        refine a_iload_n (pc := 99) C dX7_rounds_99 2 rfl ?_
        refine a_iload_n (pc := 100) C dX7_rounds_100 3 rfl ?_
        refine a_iadd (pc := 101) C dX7_rounds_101 ?_
        refine a_iconst (pc := 102) (v := 1) C dX7_rounds_102 (by decide) ?_
        refine a_isub (pc := 103) C dX7_rounds_103 ?_
        refine a_iload_n (pc := 104) C dX7_rounds_104 3 rfl ?_
        refine a_idiv (pc := 105) C dX7_rounds_105 hf (fun hf => ?_)
        exact a_iret (pc := 106) C dX7_rounds_106 (so_1 hf) (so_2 hf)
      · refine a_aload (pc := 52) C dX7_rounds_52 4 rfl ?_
        refine a_getR (pc := 54) C dX7_rounds_54 fl_X7_246 (sheet_at hx5).1 rfl ?_
        refine a_iload (pc := 57) C dX7_rounds_57 5 rfl ?_
        refine a_aload_n (pc := 59) C dX7_rounds_59 0 rfl ?_
        refine a_getR (pc := 60) C dX7_rounds_60 fl_X7_59 tx_0 rfl ?_
        refine a_iload_n (pc := 63) C dX7_rounds_63 1 rfl ?_
        have hx8 := (ck_some hf).1
        refine a_aald (pc := 64) C dX7_rounds_64 tx_39 rfl hf (fun hf => ?_)
        refine a_getR (pc := 65) C dX7_rounds_65 fl_X7_246 (sheet_at hx8).1 rfl ?_
        refine a_iload (pc := 68) C dX7_rounds_68 5 rfl ?_
        refine a_lald (pc := 70) C dX7_rounds_70 (sheet_at hx8).2 hf (fun hf => ?_)
        refine a_iload_n (pc := 71) C dX7_rounds_71 3 rfl ?_
        refine a_i2l (pc := 72) C dX7_rounds_72 ?_
        refine a_ldiv (pc := 73) C dX7_rounds_73 hf (fun hf => ?_)
        refine a_last (pc := 74) C dX7_rounds_74 (sheet_at hx5).2 hf (fun M9 hf => ?_)
        refine a_iinc (pc := 75) (v := 1) (fun v10 => [(7, .int v10), (0, .ref (ad 0)), (1, .int x1), (2, .int x2), (3, .int x3), (6, .ref (ad (sheetC x4.toNatClampNeg)))]) C dX7_rounds_75 5 rfl (by decide) (by decide) (fun _ => rfl) hf (fun v10 hf => ?_)
        refine a_goto (pc := 78) 40 C dX7_rounds_78 (by decide) ?_
        exact a_sub [1, 2, 3, 4, 5, 0] rfl (hk40 (v10, M9) hf)
    · refine a_iload (pc := 25) C dX7_rounds_25 0 rfl ?_
      exact a_iret (pc := 27) C dX7_rounds_27 (so_1 hf) (so_2 hf)
  · refine a_bipush (pc := 8) (v := (-2)) C dX7_rounds_8 (by decide) ?_
    exact a_iret (pc := 10) C dX7_rounds_10 (so_1 hf) (so_2 hf)
theorem dX7_ringOfRate_0 : decode cX7_ringOfRate 0 = .ok (.aload_n 0, 1) := by decide +kernel
theorem dX7_ringOfRate_1 : decode cX7_ringOfRate 1 = .ok (.getfield 25, 3) := by decide +kernel
theorem dX7_ringOfRate_4 : decode cX7_ringOfRate 4 = .ok (.aload_n 0, 1) := by decide +kernel
theorem dX7_ringOfRate_5 : decode cX7_ringOfRate 5 = .ok (.getfield 12, 3) := by decide +kernel
theorem dX7_ringOfRate_8 : decode cX7_ringOfRate 8 = .ok (.invokevirtual 175, 3) := by decide +kernel
theorem dX7_ringOfRate_11 : decode cX7_ringOfRate 11 = .ok (.aload_n 0, 1) := by decide +kernel
theorem dX7_ringOfRate_12 : decode cX7_ringOfRate 12 = .ok (.getfield 25, 3) := by decide +kernel
theorem dX7_ringOfRate_15 : decode cX7_ringOfRate 15 = .ok (.iload_n 1, 1) := by decide +kernel
theorem dX7_ringOfRate_16 : decode cX7_ringOfRate 16 = .ok (.invokevirtual 191, 3) := by decide +kernel
theorem dX7_ringOfRate_19 : decode cX7_ringOfRate 19 = .ok (.istore_n 2, 1) := by decide +kernel
theorem dX7_ringOfRate_20 : decode cX7_ringOfRate 20 = .ok (.iload_n 2, 1) := by decide +kernel
theorem dX7_ringOfRate_21 : decode cX7_ringOfRate 21 = .ok (.iconst (-1), 1) := by decide +kernel
theorem dX7_ringOfRate_22 : decode cX7_ringOfRate 22 = .ok (.if_icmp .ne 6, 3) := by decide +kernel
theorem dX7_ringOfRate_25 : decode cX7_ringOfRate 25 = .ok (.bipush (-3), 2) := by decide +kernel
theorem dX7_ringOfRate_27 : decode cX7_ringOfRate 27 = .ok (.ireturn, 1) := by decide +kernel
theorem dX7_ringOfRate_28 : decode cX7_ringOfRate 28 = .ok (.iload_n 2, 1) := by decide +kernel
theorem dX7_ringOfRate_29 : decode cX7_ringOfRate 29 = .ok (.bipush (-2), 2) := by decide +kernel
theorem dX7_ringOfRate_31 : decode cX7_ringOfRate 31 = .ok (.if_icmp .ne 7, 3) := by decide +kernel
theorem dX7_ringOfRate_34 : decode cX7_ringOfRate 34 = .ok (.iconst (-1), 1) := by decide +kernel
theorem dX7_ringOfRate_35 : decode cX7_ringOfRate 35 = .ok (.goto 4, 3) := by decide +kernel
theorem dX7_ringOfRate_38 : decode cX7_ringOfRate 38 = .ok (.iload_n 2, 1) := by decide +kernel
theorem dX7_ringOfRate_39 : decode cX7_ringOfRate 39 = .ok (.ireturn, 1) := by decide +kernel
def f_X7_ringOfRate (N : Nat) (x1 : Int32) (M : Mem) : Option (Int32 × Mem) := bd (f_X4_findRings N 1 M) (fun M2 => bd (f_X4_worstRing N x1 M2) (fun v3 => if v3 = (-1 : Int32) then (some ((-3 : Int32), M2)) else (if v3 = (-2 : Int32) then (some ((-1 : Int32), M2)) else (some (v3, M2)))))
set_option maxRecDepth 100000 in
set_option maxHeartbeats 4000000 in
theorem c_X7_ringOfRate {l : Launch} {D : va_G} {ac : Nat → ClassId} {A : Nat → Prop} {ad : Nat → Nat} {rest : va_W} (N : Nat) (x1 : Int32)  (M : Mem) (r0 : Int32) (M0 : Mem) (hf : f_X7_ringOfRate N x1 M = some (r0, M0)) : CtI l D ac A tabX ad rest yX7_ringOfRate cX7_ringOfRate 3 .int 5 [.ref (ad 0), .int x1] M r0 M0 := by
  refine ct_ofI (own := RX7) (by decide +kernel) rfl (Nat.le_of_ble_eq_true rfl) ?_
  intro p e s m args below meth c C
  unfold f_X7_ringOfRate at hf
  refine a_L (L' := [(0, .ref (ad 0)), (1, .int x1)]) rfl ?_
  refine a_aload_n (pc := 0) C dX7_ringOfRate_0 0 rfl ?_
  refine a_getR (pc := 1) C dX7_ringOfRate_1 fl_X7_25 tx_0 rfl ?_
  refine a_aload_n (pc := 4) C dX7_ringOfRate_4 0 rfl ?_
  refine a_getR (pc := 5) C dX7_ringOfRate_5 fl_X7_12 tx_0 rfl ?_
  refine a_callV_V (pc := 8) (d' := 4) C dX7_ringOfRate_8 ml_X7_175 mc_X4_findRings mv_X4_findRings tx_19 rfl [.ref (ad 1)] rfl (Nat.le_of_ble_eq_true rfl) (Nat.le_of_ble_eq_true rfl) rfl (Nat.le_of_ble_eq_true rfl) (fun M' h => c_X4_findRings N 1 net_1 _  M' h) hf (fun M2 hf => ?_)
  refine a_aload_n (pc := 11) C dX7_ringOfRate_11 0 rfl ?_
  refine a_getR (pc := 12) C dX7_ringOfRate_12 fl_X7_25 tx_0 rfl ?_
  refine a_iload_n (pc := 15) C dX7_ringOfRate_15 1 rfl ?_
  refine a_callV_Ir (pc := 16) (d' := 3) C dX7_ringOfRate_16 ml_X7_191 mc_X4_worstRing mv_X4_worstRing tx_19 rfl [.int x1] rfl (Nat.le_of_ble_eq_true rfl) (Nat.le_of_ble_eq_true rfl) rfl (Nat.le_of_ble_eq_true rfl) (fun r h => c_X4_worstRing N x1  _  r h) hf (fun v3 hf => ?_)
  refine a_istore_n (pc := 19) [(2, .int v3), (0, .ref (ad 0)), (1, .int x1)] C dX7_ringOfRate_19 (by decide) rfl ?_
  refine a_iload_n (pc := 20) C dX7_ringOfRate_20 0 rfl ?_
  refine a_iconst (pc := 21) (v := (-1)) C dX7_ringOfRate_21 (by decide) ?_
  refine a_icmp_ne (pc := 22) 28 C dX7_ringOfRate_22 (by decide) hf (fun hf => ?_) (fun hf => ?_)
  · refine a_iload_n (pc := 28) C dX7_ringOfRate_28 0 rfl ?_
    refine a_bipush (pc := 29) (v := (-2)) C dX7_ringOfRate_29 (by decide) ?_
    refine a_icmp_ne (pc := 31) 38 C dX7_ringOfRate_31 (by decide) hf (fun hf => ?_) (fun hf => ?_)
    · refine a_iload_n (pc := 38) C dX7_ringOfRate_38 0 rfl ?_
      exact a_iret (pc := 39) C dX7_ringOfRate_39 (so_1 hf) (so_2 hf)
    · refine a_iconst (pc := 34) (v := (-1)) C dX7_ringOfRate_34 (by decide) ?_
      refine a_goto (pc := 35) 39 C dX7_ringOfRate_35 (by decide) ?_
      exact a_iret (pc := 39) C dX7_ringOfRate_39 (so_1 hf) (so_2 hf)
  · refine a_bipush (pc := 25) (v := (-3)) C dX7_ringOfRate_25 (by decide) ?_
    exact a_iret (pc := 27) C dX7_ringOfRate_27 (so_1 hf) (so_2 hf)
theorem dX8_ratios_0 : decode cX8_ratios 0 = .ok (.aload_n 0, 1) := by decide +kernel
theorem dX8_ratios_1 : decode cX8_ratios 1 = .ok (.iconst 1, 1) := by decide +kernel
theorem dX8_ratios_2 : decode cX8_ratios 2 = .ok (.putfield 215, 3) := by decide +kernel
theorem dX8_ratios_5 : decode cX8_ratios 5 = .ok (.aload_n 0, 1) := by decide +kernel
theorem dX8_ratios_6 : decode cX8_ratios 6 = .ok (.iload_n 1, 1) := by decide +kernel
theorem dX8_ratios_7 : decode cX8_ratios 7 = .ok (.ifCond .ne 7, 3) := by decide +kernel
theorem dX8_ratios_10 : decode cX8_ratios 10 = .ok (.iconst 1, 1) := by decide +kernel
theorem dX8_ratios_11 : decode cX8_ratios 11 = .ok (.goto 4, 3) := by decide +kernel
theorem dX8_ratios_14 : decode cX8_ratios 14 = .ok (.iconst 0, 1) := by decide +kernel
theorem dX8_ratios_15 : decode cX8_ratios 15 = .ok (.putfield 218, 3) := by decide +kernel
theorem dX8_ratios_18 : decode cX8_ratios 18 = .ok (.iconst 0, 1) := by decide +kernel
theorem dX8_ratios_19 : decode cX8_ratios 19 = .ok (.istore_n 2, 1) := by decide +kernel
theorem dX8_ratios_20 : decode cX8_ratios 20 = .ok (.iload_n 2, 1) := by decide +kernel
theorem dX8_ratios_21 : decode cX8_ratios 21 = .ok (.iconst 1, 1) := by decide +kernel
theorem dX8_ratios_22 : decode cX8_ratios 22 = .ok (.aload_n 0, 1) := by decide +kernel
theorem dX8_ratios_23 : decode cX8_ratios 23 = .ok (.getfield 102, 3) := by decide +kernel
theorem dX8_ratios_26 : decode cX8_ratios 26 = .ok (.ishl, 1) := by decide +kernel
theorem dX8_ratios_27 : decode cX8_ratios 27 = .ok (.if_icmp .ge 70, 3) := by decide +kernel
theorem dX8_ratios_30 : decode cX8_ratios 30 = .ok (.iload_n 1, 1) := by decide +kernel
theorem dX8_ratios_31 : decode cX8_ratios 31 = .ok (.ifCond .eq 66, 3) := by decide +kernel
theorem dX8_ratios_34 : decode cX8_ratios 34 = .ok (.iload_n 2, 1) := by decide +kernel
theorem dX8_ratios_35 : decode cX8_ratios 35 = .ok (.iload_n 1, 1) := by decide +kernel
theorem dX8_ratios_36 : decode cX8_ratios 36 = .ok (.iconst (-1), 1) := by decide +kernel
theorem dX8_ratios_37 : decode cX8_ratios 37 = .ok (.ixor, 1) := by decide +kernel
theorem dX8_ratios_38 : decode cX8_ratios 38 = .ok (.iand, 1) := by decide +kernel
theorem dX8_ratios_39 : decode cX8_ratios 39 = .ok (.ifCond .ne 52, 3) := by decide +kernel
theorem dX8_ratios_42 : decode cX8_ratios 42 = .ok (.aload_n 0, 1) := by decide +kernel
theorem dX8_ratios_43 : decode cX8_ratios 43 = .ok (.iload_n 2, 1) := by decide +kernel
theorem dX8_ratios_44 : decode cX8_ratios 44 = .ok (.iload_n 1, 1) := by decide +kernel
theorem dX8_ratios_45 : decode cX8_ratios 45 = .ok (.invokevirtual 221, 3) := by decide +kernel
theorem dX8_ratios_48 : decode cX8_ratios 48 = .ok (.ifCond .eq 43, 3) := by decide +kernel
theorem dX8_ratios_51 : decode cX8_ratios 51 = .ok (.aload_n 0, 1) := by decide +kernel
theorem dX8_ratios_52 : decode cX8_ratios 52 = .ok (.getfield 203, 3) := by decide +kernel
theorem dX8_ratios_55 : decode cX8_ratios 55 = .ok (.aload_n 0, 1) := by decide +kernel
theorem dX8_ratios_56 : decode cX8_ratios 56 = .ok (.getfield 218, 3) := by decide +kernel
theorem dX8_ratios_59 : decode cX8_ratios 59 = .ok (.imul, 1) := by decide +kernel
theorem dX8_ratios_60 : decode cX8_ratios 60 = .ok (.aload_n 0, 1) := by decide +kernel
theorem dX8_ratios_61 : decode cX8_ratios 61 = .ok (.getfield 215, 3) := by decide +kernel
theorem dX8_ratios_64 : decode cX8_ratios 64 = .ok (.aload_n 0, 1) := by decide +kernel
theorem dX8_ratios_65 : decode cX8_ratios 65 = .ok (.getfield 206, 3) := by decide +kernel
theorem dX8_ratios_68 : decode cX8_ratios 68 = .ok (.imul, 1) := by decide +kernel
theorem dX8_ratios_69 : decode cX8_ratios 69 = .ok (.if_icmp .lt 6, 3) := by decide +kernel
theorem dX8_ratios_72 : decode cX8_ratios 72 = .ok (.goto 19, 3) := by decide +kernel
theorem dX8_ratios_75 : decode cX8_ratios 75 = .ok (.aload_n 0, 1) := by decide +kernel
theorem dX8_ratios_76 : decode cX8_ratios 76 = .ok (.aload_n 0, 1) := by decide +kernel
theorem dX8_ratios_77 : decode cX8_ratios 77 = .ok (.getfield 203, 3) := by decide +kernel
theorem dX8_ratios_80 : decode cX8_ratios 80 = .ok (.putfield 215, 3) := by decide +kernel
theorem dX8_ratios_83 : decode cX8_ratios 83 = .ok (.aload_n 0, 1) := by decide +kernel
theorem dX8_ratios_84 : decode cX8_ratios 84 = .ok (.aload_n 0, 1) := by decide +kernel
theorem dX8_ratios_85 : decode cX8_ratios 85 = .ok (.getfield 206, 3) := by decide +kernel
theorem dX8_ratios_88 : decode cX8_ratios 88 = .ok (.putfield 218, 3) := by decide +kernel
theorem dX8_ratios_91 : decode cX8_ratios 91 = .ok (.iinc 2 1, 3) := by decide +kernel
theorem dX8_ratios_94 : decode cX8_ratios 94 = .ok (.goto (-74), 3) := by decide +kernel
theorem dX8_ratios_97 : decode cX8_ratios 97 = .ok (.aload_n 0, 1) := by decide +kernel
theorem dX8_ratios_98 : decode cX8_ratios 98 = .ok (.getfield 215, 3) := by decide +kernel
theorem dX8_ratios_101 : decode cX8_ratios 101 = .ok (.aload_n 0, 1) := by decide +kernel
theorem dX8_ratios_102 : decode cX8_ratios 102 = .ok (.getfield 218, 3) := by decide +kernel
theorem dX8_ratios_105 : decode cX8_ratios 105 = .ok (.invokestatic 224, 3) := by decide +kernel
theorem dX8_ratios_108 : decode cX8_ratios 108 = .ok (.istore_n 2, 1) := by decide +kernel
theorem dX8_ratios_109 : decode cX8_ratios 109 = .ok (.aload_n 0, 1) := by decide +kernel
theorem dX8_ratios_110 : decode cX8_ratios 110 = .ok (.dup, 1) := by decide +kernel
theorem dX8_ratios_111 : decode cX8_ratios 111 = .ok (.getfield 215, 3) := by decide +kernel
theorem dX8_ratios_114 : decode cX8_ratios 114 = .ok (.iload_n 2, 1) := by decide +kernel
theorem dX8_ratios_115 : decode cX8_ratios 115 = .ok (.idiv, 1) := by decide +kernel
theorem dX8_ratios_116 : decode cX8_ratios 116 = .ok (.putfield 215, 3) := by decide +kernel
theorem dX8_ratios_119 : decode cX8_ratios 119 = .ok (.aload_n 0, 1) := by decide +kernel
theorem dX8_ratios_120 : decode cX8_ratios 120 = .ok (.dup, 1) := by decide +kernel
theorem dX8_ratios_121 : decode cX8_ratios 121 = .ok (.getfield 218, 3) := by decide +kernel
theorem dX8_ratios_124 : decode cX8_ratios 124 = .ok (.iload_n 2, 1) := by decide +kernel
theorem dX8_ratios_125 : decode cX8_ratios 125 = .ok (.idiv, 1) := by decide +kernel
theorem dX8_ratios_126 : decode cX8_ratios 126 = .ok (.putfield 218, 3) := by decide +kernel
theorem dX8_ratios_129 : decode cX8_ratios 129 = .ok (.return_, 1) := by decide +kernel
def f_X8_ratios (N : Nat) (x1 : Int32) (M : Mem) : Option (Mem) := nm (setI M 0 20 (1 : Int32)) (fun M1 => jn (fun (a15 : Int32) => nm (setI M1 0 21 a15) (fun M2 => lp (fun (k20 : (Int32 × Mem) → Option (Mem)) (a20 : Int32 × Mem) => jn (fun (a97 : Unit) => bd (f_X8_common N (a20.2.1 0 20) (a20.2.1 0 21) a20.2) (fun v3 => ck (¬ v3 = 0) (nm (setI a20.2 0 20 ((a20.2.1 0 20) / v3)) (fun M5 => ck (¬ v3 = 0) (nm (setI M5 0 21 ((M5.1 0 21) / v3)) (fun M6 => some M6)))))) (fun (k97 : Unit → Option (Mem)) => if ((1 : Int32) <<< ((a20.2.1 0 1) &&& 31)) ≤ a20.1 then (k97 ()) else (if x1 = 0 then (k97 ()) else (jn (fun (a91 : Mem) => nm (a20.1 + (1 : Int32)) (fun v7 => k20 (v7, a91))) (fun (k91 : Mem → Option (Mem)) => if (a20.1 &&& (x1 ^^^ (-1 : Int32))) = 0 then (bd (f_X8_rates N a20.1 x1 a20.2) (fun w10 => if w10.1 = 0 then (k91 w10.2) else (if ((w10.2.1 0 18) * (w10.2.1 0 21)) < ((w10.2.1 0 20) * (w10.2.1 0 19)) then (nm (setI w10.2 0 20 (w10.2.1 0 18)) (fun M11 => nm (setI M11 0 21 (M11.1 0 19)) (fun M12 => k91 M12))) else (k91 w10.2)))) else (k91 a20.2)))))) N ((0 : Int32), M2))) (fun (k15 : Int32 → Option (Mem)) => if x1 = 0 then (k15 (1 : Int32)) else (k15 (0 : Int32))))
set_option maxRecDepth 100000 in
set_option maxHeartbeats 4000000 in
theorem c_X8_ratios {l : Launch} {D : va_G} {ac : Nat → ClassId} {A : Nat → Prop} {ad : Nat → Nat} {rest : va_W} (N : Nat) (x1 : Int32)  (M : Mem)  (M0 : Mem) (hf : f_X8_ratios N x1 M = some M0) : CtV l D ac A tabM ad rest yX8_ratios cX8_ratios 3  5 [.ref (ad 0), .int x1] M  M0 := by
  refine ct_ofV (own := RX8) (by decide +kernel) rfl (Nat.le_of_ble_eq_true rfl) ?_
  intro p e s m args below meth c C
  unfold f_X8_ratios at hf
  refine a_L (L' := [(0, .ref (ad 0)), (1, .int x1)]) rfl ?_
  refine a_aload_n (pc := 0) C dX8_ratios_0 0 rfl ?_
  refine a_iconst (pc := 1) (v := 1) C dX8_ratios_1 (by decide) ?_
  refine a_putI (pc := 2) C dX8_ratios_2 fl_X8_215 tm_0 rfl hf (fun M1 hf => ?_)
  refine a_aload_n (pc := 5) C dX8_ratios_5 0 rfl ?_
  refine a_iload_n (pc := 6) C dX8_ratios_6 1 rfl ?_
  refine a_jn 15 (fun a15 : Int32 => [(0, .ref (ad 0)), (1, .int x1)]) (fun a15 : Int32 => [.int a15, .ref (ad 0)]) (fun a15 : Int32 => M1) hf (fun a15 hf => ?_) (fun k15 hk15 hf => ?_)
  · refine a_putI (pc := 15) C dX8_ratios_15 fl_X8_218 tm_0 rfl hf (fun M2 hf => ?_)
    refine a_iconst (pc := 18) (v := 0) C dX8_ratios_18 (by decide) ?_
    refine a_istore_n (pc := 19) [(2, .int (0 : Int32)), (0, .ref (ad 0)), (1, .int x1)] C dX8_ratios_19 (by decide) rfl ?_
    refine a_sub [1, 2, 0] rfl ?_
    refine a_lp 20 (fun a20 : Int32 × Mem => [(0, .ref (ad 0)), (1, .int x1), (2, .int a20.1)]) (fun a20 : Int32 × Mem => []) (fun a20 : Int32 × Mem => a20.2) (fun k20 a20 hk20 hf => ?_) N ((0 : Int32), M2) hf
    refine a_iload_n (pc := 20) C dX8_ratios_20 2 rfl ?_
    refine a_iconst (pc := 21) (v := 1) C dX8_ratios_21 (by decide) ?_
    refine a_aload_n (pc := 22) C dX8_ratios_22 0 rfl ?_
    refine a_getI (pc := 23) C dX8_ratios_23 fl_X8_102 tm_0 rfl ?_
    refine a_ishl (pc := 26) C dX8_ratios_26 ?_
    refine a_jn 97 (fun a97 : Unit => [(0, .ref (ad 0))]) (fun a97 : Unit => []) (fun a97 : Unit => a20.2) hf (fun a97 hf => ?_) (fun k97 hk97 hf => ?_)
    · refine a_aload_n (pc := 97) C dX8_ratios_97 0 rfl ?_
      refine a_getI (pc := 98) C dX8_ratios_98 fl_X8_215 tm_0 rfl ?_
      refine a_aload_n (pc := 101) C dX8_ratios_101 0 rfl ?_
      refine a_getI (pc := 102) C dX8_ratios_102 fl_X8_218 tm_0 rfl ?_
      refine a_callS_Ir (pc := 105) (d' := 1) C dX8_ratios_105 ml_X8_224 mc_X8_common ms_X8_common [.int (a20.2.1 0 20), .int (a20.2.1 0 21)] rfl (Nat.le_of_ble_eq_true rfl) (Nat.le_of_ble_eq_true rfl) rfl (Nat.le_of_ble_eq_true rfl) (fun r h => c_X8_common N (a20.2.1 0 20) (a20.2.1 0 21)  _  r h) hf (fun v3 hf => ?_)
      refine a_istore_n (pc := 108) [(2, .int v3), (0, .ref (ad 0))] C dX8_ratios_108 (by decide) rfl ?_
      refine a_aload_n (pc := 109) C dX8_ratios_109 1 rfl ?_
      refine a_dup (pc := 110) C dX8_ratios_110 rfl ?_
      refine a_getI (pc := 111) C dX8_ratios_111 fl_X8_215 tm_0 rfl ?_
      refine a_iload_n (pc := 114) C dX8_ratios_114 0 rfl ?_
      refine a_idiv (pc := 115) C dX8_ratios_115 hf (fun hf => ?_)
      refine a_putI (pc := 116) C dX8_ratios_116 fl_X8_215 tm_0 rfl hf (fun M5 hf => ?_)
      refine a_aload_n (pc := 119) C dX8_ratios_119 1 rfl ?_
      refine a_dup (pc := 120) C dX8_ratios_120 rfl ?_
      refine a_getI (pc := 121) C dX8_ratios_121 fl_X8_218 tm_0 rfl ?_
      refine a_iload_n (pc := 124) C dX8_ratios_124 0 rfl ?_
      refine a_idiv (pc := 125) C dX8_ratios_125 hf (fun hf => ?_)
      refine a_putI (pc := 126) C dX8_ratios_126 fl_X8_218 tm_0 rfl hf (fun M6 hf => ?_)
      exact a_vret (pc := 129) C dX8_ratios_129 (Option.some.inj hf)
    · refine a_icmp_ge (pc := 27) 97 C dX8_ratios_27 (by decide) hf (fun hf => ?_) (fun hf => ?_)
      · exact a_sub [0] rfl (hk97 () hf)
      · refine a_iload_n (pc := 30) C dX8_ratios_30 1 rfl ?_
        refine a_if_eq (pc := 31) 97 C dX8_ratios_31 (by decide) hf (fun hf => ?_) (fun hf => ?_)
        · exact a_sub [0] rfl (hk97 () hf)
        · refine a_iload_n (pc := 34) C dX8_ratios_34 2 rfl ?_
          refine a_iload_n (pc := 35) C dX8_ratios_35 1 rfl ?_
          refine a_iconst (pc := 36) (v := (-1)) C dX8_ratios_36 (by decide) ?_
          refine a_ixor (pc := 37) C dX8_ratios_37 ?_
          refine a_iand (pc := 38) C dX8_ratios_38 ?_
          refine a_jn 91 (fun a91 : Mem => [(0, .ref (ad 0)), (1, .int x1), (2, .int a20.1)]) (fun a91 : Mem => []) (fun a91 : Mem => a91) hf (fun a91 hf => ?_) (fun k91 hk91 hf => ?_)
          · refine a_iinc (pc := 91) (v := 1) (fun v7 => [(2, .int v7), (0, .ref (ad 0)), (1, .int x1)]) C dX8_ratios_91 2 rfl (by decide) (by decide) (fun _ => rfl) hf (fun v7 hf => ?_)
            refine a_goto (pc := 94) 20 C dX8_ratios_94 (by decide) ?_
            exact a_sub [1, 2, 0] rfl (hk20 (v7, a91) hf)
          · refine a_if_ne (pc := 39) 91 C dX8_ratios_39 (by decide) hf (fun hf => ?_) (fun hf => ?_)
            · exact a_sub [0, 1, 2] rfl (hk91 a20.2 hf)
            · refine a_aload_n (pc := 42) C dX8_ratios_42 0 rfl ?_
              refine a_iload_n (pc := 43) C dX8_ratios_43 2 rfl ?_
              refine a_iload_n (pc := 44) C dX8_ratios_44 1 rfl ?_
              refine a_callV_I (pc := 45) (d' := 4) C dX8_ratios_45 ml_X8_221 mc_X8_rates mv_X8_rates tm_0 rfl [.int a20.1, .int x1] rfl (Nat.le_of_ble_eq_true rfl) (Nat.le_of_ble_eq_true rfl) rfl (Nat.le_of_ble_eq_true rfl) (fun r M' h => c_X8_rates N a20.1 x1  _  r M' h) hf (fun v8 M9 hf => ?_)
              refine a_if_eq (pc := 48) 91 C dX8_ratios_48 (by decide) hf (fun hf => ?_) (fun hf => ?_)
              · exact a_sub [0, 1, 2] rfl (hk91 M9 hf)
              · refine a_aload_n (pc := 51) C dX8_ratios_51 0 rfl ?_
                refine a_getI (pc := 52) C dX8_ratios_52 fl_X8_203 tm_0 rfl ?_
                refine a_aload_n (pc := 55) C dX8_ratios_55 0 rfl ?_
                refine a_getI (pc := 56) C dX8_ratios_56 fl_X8_218 tm_0 rfl ?_
                refine a_imul (pc := 59) C dX8_ratios_59 ?_
                refine a_aload_n (pc := 60) C dX8_ratios_60 0 rfl ?_
                refine a_getI (pc := 61) C dX8_ratios_61 fl_X8_215 tm_0 rfl ?_
                refine a_aload_n (pc := 64) C dX8_ratios_64 0 rfl ?_
                refine a_getI (pc := 65) C dX8_ratios_65 fl_X8_206 tm_0 rfl ?_
                refine a_imul (pc := 68) C dX8_ratios_68 ?_
                refine a_icmp_lt (pc := 69) 75 C dX8_ratios_69 (by decide) hf (fun hf => ?_) (fun hf => ?_)
                · refine a_aload_n (pc := 75) C dX8_ratios_75 0 rfl ?_
                  refine a_aload_n (pc := 76) C dX8_ratios_76 0 rfl ?_
                  refine a_getI (pc := 77) C dX8_ratios_77 fl_X8_203 tm_0 rfl ?_
                  refine a_putI (pc := 80) C dX8_ratios_80 fl_X8_215 tm_0 rfl hf (fun M11 hf => ?_)
                  refine a_aload_n (pc := 83) C dX8_ratios_83 0 rfl ?_
                  refine a_aload_n (pc := 84) C dX8_ratios_84 0 rfl ?_
                  refine a_getI (pc := 85) C dX8_ratios_85 fl_X8_206 tm_0 rfl ?_
                  refine a_putI (pc := 88) C dX8_ratios_88 fl_X8_218 tm_0 rfl hf (fun M12 hf => ?_)
                  exact a_sub [0, 1, 2] rfl (hk91 M12 hf)
                · refine a_goto (pc := 72) 91 C dX8_ratios_72 (by decide) ?_
                  exact a_sub [0, 1, 2] rfl (hk91 M9 hf)
  · refine a_if_ne (pc := 7) 14 C dX8_ratios_7 (by decide) hf (fun hf => ?_) (fun hf => ?_)
    · refine a_iconst (pc := 14) (v := 0) C dX8_ratios_14 (by decide) ?_
      exact a_sub [0, 1] rfl (hk15 (0 : Int32) hf)
    · refine a_iconst (pc := 10) (v := 1) C dX8_ratios_10 (by decide) ?_
      refine a_goto (pc := 11) 15 C dX8_ratios_11 (by decide) ?_
      exact a_sub [0, 1] rfl (hk15 (1 : Int32) hf)
theorem dX8_isFree_0 : decode cX8_isFree 0 = .ok (.aload_n 0, 1) := by decide +kernel
theorem dX8_isFree_1 : decode cX8_isFree 1 = .ok (.invokevirtual 227, 3) := by decide +kernel
theorem dX8_isFree_4 : decode cX8_isFree 4 = .ok (.aload_n 0, 1) := by decide +kernel
theorem dX8_isFree_5 : decode cX8_isFree 5 = .ok (.iload_n 1, 1) := by decide +kernel
theorem dX8_isFree_6 : decode cX8_isFree 6 = .ok (.iconst 1, 1) := by decide +kernel
theorem dX8_isFree_7 : decode cX8_isFree 7 = .ok (.aload_n 0, 1) := by decide +kernel
theorem dX8_isFree_8 : decode cX8_isFree 8 = .ok (.getfield 102, 3) := by decide +kernel
theorem dX8_isFree_11 : decode cX8_isFree 11 = .ok (.ishl, 1) := by decide +kernel
theorem dX8_isFree_12 : decode cX8_isFree 12 = .ok (.iconst 1, 1) := by decide +kernel
theorem dX8_isFree_13 : decode cX8_isFree 13 = .ok (.isub, 1) := by decide +kernel
theorem dX8_isFree_14 : decode cX8_isFree 14 = .ok (.invokevirtual 221, 3) := by decide +kernel
theorem dX8_isFree_17 : decode cX8_isFree 17 = .ok (.ireturn, 1) := by decide +kernel
def f_X8_isFree (N : Nat) (x1 : Int32) (M : Mem) : Option (Int32 × Mem) := bd (f_X8_laysRings N  M) (fun M2 => bd (f_X8_rates N x1 (((1 : Int32) <<< ((M2.1 0 1) &&& 31)) - (1 : Int32)) M2) (fun w5 => ck (w5.1 = 0 ∨ w5.1 = 1) (some (w5.1, w5.2))))
set_option maxRecDepth 100000 in
set_option maxHeartbeats 4000000 in
theorem c_X8_isFree {l : Launch} {D : va_G} {ac : Nat → ClassId} {A : Nat → Prop} {ad : Nat → Nat} {rest : va_W} (N : Nat) (x1 : Int32)  (M : Mem) (r0 : Int32) (M0 : Mem) (hf : f_X8_isFree N x1 M = some (r0, M0)) : CtI l D ac A tabM ad rest yX8_isFree cX8_isFree 2 .boolean 5 [.ref (ad 0), .int x1] M r0 M0 := by
  refine ct_ofI (own := RX8) (by decide +kernel) rfl (Nat.le_of_ble_eq_true rfl) ?_
  intro p e s m args below meth c C
  unfold f_X8_isFree at hf
  refine a_L (L' := [(0, .ref (ad 0)), (1, .int x1)]) rfl ?_
  refine a_aload_n (pc := 0) C dX8_isFree_0 0 rfl ?_
  refine a_callV_V (pc := 1) (d' := 3) C dX8_isFree_1 ml_X8_227 mc_X8_laysRings mv_X8_laysRings tm_0 rfl [] rfl (Nat.le_of_ble_eq_true rfl) (Nat.le_of_ble_eq_true rfl) rfl (Nat.le_of_ble_eq_true rfl) (fun M' h => c_X8_laysRings N   _  M' h) hf (fun M2 hf => ?_)
  refine a_aload_n (pc := 4) C dX8_isFree_4 0 rfl ?_
  refine a_iload_n (pc := 5) C dX8_isFree_5 1 rfl ?_
  refine a_iconst (pc := 6) (v := 1) C dX8_isFree_6 (by decide) ?_
  refine a_aload_n (pc := 7) C dX8_isFree_7 0 rfl ?_
  refine a_getI (pc := 8) C dX8_isFree_8 fl_X8_102 tm_0 rfl ?_
  refine a_ishl (pc := 11) C dX8_isFree_11 ?_
  refine a_iconst (pc := 12) (v := 1) C dX8_isFree_12 (by decide) ?_
  refine a_isub (pc := 13) C dX8_isFree_13 ?_
  refine a_callV_I (pc := 14) (d' := 4) C dX8_isFree_14 ml_X8_221 mc_X8_rates mv_X8_rates tm_0 rfl [.int x1, .int (((1 : Int32) <<< ((M2.1 0 1) &&& 31)) - (1 : Int32))] rfl (Nat.le_of_ble_eq_true rfl) (Nat.le_of_ble_eq_true rfl) rfl (Nat.le_of_ble_eq_true rfl) (fun r M' h => c_X8_rates N x1 (((1 : Int32) <<< ((M2.1 0 1) &&& 31)) - (1 : Int32))  _  r M' h) hf (fun v3 M4 hf => ?_)
  exact a_zret (pc := 17) C dX8_isFree_17 (ck_some hf).1 (so_1 (ck_some hf).2) (so_2 (ck_some hf).2)
theorem dX8_judge_0 : decode cX8_judge 0 = .ok (.aload_n 0, 1) := by decide +kernel
theorem dX8_judge_1 : decode cX8_judge 1 = .ok (.iload_n 1, 1) := by decide +kernel
theorem dX8_judge_2 : decode cX8_judge 2 = .ok (.iload_n 2, 1) := by decide +kernel
theorem dX8_judge_3 : decode cX8_judge 3 = .ok (.iload_n 3, 1) := by decide +kernel
theorem dX8_judge_4 : decode cX8_judge 4 = .ok (.invokevirtual 248, 3) := by decide +kernel
theorem dX8_judge_7 : decode cX8_judge 7 = .ok (.istore 4, 2) := by decide +kernel
theorem dX8_judge_9 : decode cX8_judge 9 = .ok (.iload 4, 2) := by decide +kernel
theorem dX8_judge_11 : decode cX8_judge 11 = .ok (.ifCond .eq 8, 3) := by decide +kernel
theorem dX8_judge_14 : decode cX8_judge 14 = .ok (.iload 4, 2) := by decide +kernel
theorem dX8_judge_16 : decode cX8_judge 16 = .ok (.goto 10, 3) := by decide +kernel
theorem dX8_judge_19 : decode cX8_judge 19 = .ok (.aload_n 0, 1) := by decide +kernel
theorem dX8_judge_20 : decode cX8_judge 20 = .ok (.iload_n 1, 1) := by decide +kernel
theorem dX8_judge_21 : decode cX8_judge 21 = .ok (.iload_n 2, 1) := by decide +kernel
theorem dX8_judge_22 : decode cX8_judge 22 = .ok (.iload_n 3, 1) := by decide +kernel
theorem dX8_judge_23 : decode cX8_judge 23 = .ok (.invokevirtual 252, 3) := by decide +kernel
theorem dX8_judge_26 : decode cX8_judge 26 = .ok (.ireturn, 1) := by decide +kernel
def f_X8_judge (N : Nat) (x1 : Int32) (x2 : Int32) (x3 : Int32) (M : Mem) : Option (Int32 × Mem) := bd (f_X8_wrongPlaces N x1 x2 x3 M) (fun v1 => if v1 = 0 then (bd (f_X8_firstWrong N x1 x2 x3 M) (fun w5 => some (w5.1, w5.2))) else (some (v1, M)))
set_option maxRecDepth 100000 in
set_option maxHeartbeats 4000000 in
theorem c_X8_judge {l : Launch} {D : va_G} {ac : Nat → ClassId} {A : Nat → Prop} {ad : Nat → Nat} {rest : va_W} (N : Nat) (x1 : Int32) (x2 : Int32) (x3 : Int32)  (M : Mem) (r0 : Int32) (M0 : Mem) (hf : f_X8_judge N x1 x2 x3 M = some (r0, M0)) : CtI l D ac A tabM ad rest yX8_judge cX8_judge 5 .int 5 [.ref (ad 0), .int x1, .int x2, .int x3] M r0 M0 := by
  refine ct_ofI (own := RX8) (by decide +kernel) rfl (Nat.le_of_ble_eq_true rfl) ?_
  intro p e s m args below meth c C
  unfold f_X8_judge at hf
  refine a_L (L' := [(0, .ref (ad 0)), (1, .int x1), (2, .int x2), (3, .int x3)]) rfl ?_
  refine a_aload_n (pc := 0) C dX8_judge_0 0 rfl ?_
  refine a_iload_n (pc := 1) C dX8_judge_1 1 rfl ?_
  refine a_iload_n (pc := 2) C dX8_judge_2 2 rfl ?_
  refine a_iload_n (pc := 3) C dX8_judge_3 3 rfl ?_
  refine a_callV_Ir (pc := 4) (d' := 3) C dX8_judge_4 ml_X8_248 mc_X8_wrongPlaces mv_X8_wrongPlaces tm_0 rfl [.int x1, .int x2, .int x3] rfl (Nat.le_of_ble_eq_true rfl) (Nat.le_of_ble_eq_true rfl) rfl (Nat.le_of_ble_eq_true rfl) (fun r h => c_X8_wrongPlaces N x1 x2 x3  _  r h) hf (fun v1 hf => ?_)
  refine a_istore (pc := 7) [(4, .int v1), (0, .ref (ad 0)), (1, .int x1), (2, .int x2), (3, .int x3)] C dX8_judge_7 (by decide) rfl ?_
  refine a_iload (pc := 9) C dX8_judge_9 0 rfl ?_
  refine a_if_eq (pc := 11) 19 C dX8_judge_11 (by decide) hf (fun hf => ?_) (fun hf => ?_)
  · refine a_aload_n (pc := 19) C dX8_judge_19 1 rfl ?_
    refine a_iload_n (pc := 20) C dX8_judge_20 2 rfl ?_
    refine a_iload_n (pc := 21) C dX8_judge_21 3 rfl ?_
    refine a_iload_n (pc := 22) C dX8_judge_22 4 rfl ?_
    refine a_callV_I (pc := 23) (d' := 4) C dX8_judge_23 ml_X8_252 mc_X8_firstWrong mv_X8_firstWrong tm_0 rfl [.int x1, .int x2, .int x3] rfl (Nat.le_of_ble_eq_true rfl) (Nat.le_of_ble_eq_true rfl) rfl (Nat.le_of_ble_eq_true rfl) (fun r M' h => c_X8_firstWrong N x1 x2 x3  _  r M' h) hf (fun v3 M4 hf => ?_)
    exact a_iret (pc := 26) C dX8_judge_26 (so_1 hf) (so_2 hf)
  · refine a_iload (pc := 14) C dX8_judge_14 0 rfl ?_
    refine a_goto (pc := 16) 26 C dX8_judge_16 (by decide) ?_
    exact a_iret (pc := 26) C dX8_judge_26 (so_1 hf) (so_2 hf)
theorem dX8_wrongColouring_0 : decode cX8_wrongColouring 0 = .ok (.aload_n 0, 1) := by decide +kernel
theorem dX8_wrongColouring_1 : decode cX8_wrongColouring 1 = .ok (.iload_n 1, 1) := by decide +kernel
theorem dX8_wrongColouring_2 : decode cX8_wrongColouring 2 = .ok (.iload_n 2, 1) := by decide +kernel
theorem dX8_wrongColouring_3 : decode cX8_wrongColouring 3 = .ok (.iload_n 3, 1) := by decide +kernel
theorem dX8_wrongColouring_4 : decode cX8_wrongColouring 4 = .ok (.invokevirtual 248, 3) := by decide +kernel
theorem dX8_wrongColouring_7 : decode cX8_wrongColouring 7 = .ok (.istore 4, 2) := by decide +kernel
theorem dX8_wrongColouring_9 : decode cX8_wrongColouring 9 = .ok (.iload 4, 2) := by decide +kernel
theorem dX8_wrongColouring_11 : decode cX8_wrongColouring 11 = .ok (.ifCond .eq 8, 3) := by decide +kernel
theorem dX8_wrongColouring_14 : decode cX8_wrongColouring 14 = .ok (.iload 4, 2) := by decide +kernel
theorem dX8_wrongColouring_16 : decode cX8_wrongColouring 16 = .ok (.goto 20, 3) := by decide +kernel
theorem dX8_wrongColouring_19 : decode cX8_wrongColouring 19 = .ok (.aload_n 0, 1) := by decide +kernel
theorem dX8_wrongColouring_20 : decode cX8_wrongColouring 20 = .ok (.iload_n 1, 1) := by decide +kernel
theorem dX8_wrongColouring_21 : decode cX8_wrongColouring 21 = .ok (.iload_n 2, 1) := by decide +kernel
theorem dX8_wrongColouring_22 : decode cX8_wrongColouring 22 = .ok (.iload_n 3, 1) := by decide +kernel
theorem dX8_wrongColouring_23 : decode cX8_wrongColouring 23 = .ok (.invokevirtual 252, 3) := by decide +kernel
theorem dX8_wrongColouring_26 : decode cX8_wrongColouring 26 = .ok (.iconst (-1), 1) := by decide +kernel
theorem dX8_wrongColouring_27 : decode cX8_wrongColouring 27 = .ok (.if_icmp .ne 7, 3) := by decide +kernel
theorem dX8_wrongColouring_30 : decode cX8_wrongColouring 30 = .ok (.iconst 0, 1) := by decide +kernel
theorem dX8_wrongColouring_31 : decode cX8_wrongColouring 31 = .ok (.goto 5, 3) := by decide +kernel
theorem dX8_wrongColouring_34 : decode cX8_wrongColouring 34 = .ok (.bipush (-3), 2) := by decide +kernel
theorem dX8_wrongColouring_36 : decode cX8_wrongColouring 36 = .ok (.ireturn, 1) := by decide +kernel
def f_X8_wrongColouring (N : Nat) (x1 : Int32) (x2 : Int32) (x3 : Int32) (M : Mem) : Option (Int32 × Mem) := bd (f_X8_wrongPlaces N x1 x2 x3 M) (fun v1 => if v1 = 0 then (bd (f_X8_firstWrong N x1 x2 x3 M) (fun w5 => if w5.1 = (-1 : Int32) then (some ((0 : Int32), w5.2)) else (some ((-3 : Int32), w5.2)))) else (some (v1, M)))
set_option maxRecDepth 100000 in
set_option maxHeartbeats 4000000 in
theorem c_X8_wrongColouring {l : Launch} {D : va_G} {ac : Nat → ClassId} {A : Nat → Prop} {ad : Nat → Nat} {rest : va_W} (N : Nat) (x1 : Int32) (x2 : Int32) (x3 : Int32)  (M : Mem) (r0 : Int32) (M0 : Mem) (hf : f_X8_wrongColouring N x1 x2 x3 M = some (r0, M0)) : CtI l D ac A tabM ad rest yX8_wrongColouring cX8_wrongColouring 5 .int 5 [.ref (ad 0), .int x1, .int x2, .int x3] M r0 M0 := by
  refine ct_ofI (own := RX8) (by decide +kernel) rfl (Nat.le_of_ble_eq_true rfl) ?_
  intro p e s m args below meth c C
  unfold f_X8_wrongColouring at hf
  refine a_L (L' := [(0, .ref (ad 0)), (1, .int x1), (2, .int x2), (3, .int x3)]) rfl ?_
  refine a_aload_n (pc := 0) C dX8_wrongColouring_0 0 rfl ?_
  refine a_iload_n (pc := 1) C dX8_wrongColouring_1 1 rfl ?_
  refine a_iload_n (pc := 2) C dX8_wrongColouring_2 2 rfl ?_
  refine a_iload_n (pc := 3) C dX8_wrongColouring_3 3 rfl ?_
  refine a_callV_Ir (pc := 4) (d' := 3) C dX8_wrongColouring_4 ml_X8_248 mc_X8_wrongPlaces mv_X8_wrongPlaces tm_0 rfl [.int x1, .int x2, .int x3] rfl (Nat.le_of_ble_eq_true rfl) (Nat.le_of_ble_eq_true rfl) rfl (Nat.le_of_ble_eq_true rfl) (fun r h => c_X8_wrongPlaces N x1 x2 x3  _  r h) hf (fun v1 hf => ?_)
  refine a_istore (pc := 7) [(4, .int v1), (0, .ref (ad 0)), (1, .int x1), (2, .int x2), (3, .int x3)] C dX8_wrongColouring_7 (by decide) rfl ?_
  refine a_iload (pc := 9) C dX8_wrongColouring_9 0 rfl ?_
  refine a_if_eq (pc := 11) 19 C dX8_wrongColouring_11 (by decide) hf (fun hf => ?_) (fun hf => ?_)
  · refine a_aload_n (pc := 19) C dX8_wrongColouring_19 1 rfl ?_
    refine a_iload_n (pc := 20) C dX8_wrongColouring_20 2 rfl ?_
    refine a_iload_n (pc := 21) C dX8_wrongColouring_21 3 rfl ?_
    refine a_iload_n (pc := 22) C dX8_wrongColouring_22 4 rfl ?_
    refine a_callV_I (pc := 23) (d' := 4) C dX8_wrongColouring_23 ml_X8_252 mc_X8_firstWrong mv_X8_firstWrong tm_0 rfl [.int x1, .int x2, .int x3] rfl (Nat.le_of_ble_eq_true rfl) (Nat.le_of_ble_eq_true rfl) rfl (Nat.le_of_ble_eq_true rfl) (fun r M' h => c_X8_firstWrong N x1 x2 x3  _  r M' h) hf (fun v3 M4 hf => ?_)
    refine a_iconst (pc := 26) (v := (-1)) C dX8_wrongColouring_26 (by decide) ?_
    refine a_icmp_ne (pc := 27) 34 C dX8_wrongColouring_27 (by decide) hf (fun hf => ?_) (fun hf => ?_)
    · refine a_bipush (pc := 34) (v := (-3)) C dX8_wrongColouring_34 (by decide) ?_
      exact a_iret (pc := 36) C dX8_wrongColouring_36 (so_1 hf) (so_2 hf)
    · refine a_iconst (pc := 30) (v := 0) C dX8_wrongColouring_30 (by decide) ?_
      refine a_goto (pc := 31) 36 C dX8_wrongColouring_31 (by decide) ?_
      exact a_iret (pc := 36) C dX8_wrongColouring_36 (so_1 hf) (so_2 hf)
  · refine a_iload (pc := 14) C dX8_wrongColouring_14 0 rfl ?_
    refine a_goto (pc := 16) 36 C dX8_wrongColouring_16 (by decide) ?_
    exact a_iret (pc := 36) C dX8_wrongColouring_36 (so_1 hf) (so_2 hf)
