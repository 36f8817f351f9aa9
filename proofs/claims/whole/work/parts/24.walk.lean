theorem dX8_paint_0 : decode cX8_paint 0 = .ok (.iload_n 1, 1) := by decide +kernel
theorem dX8_paint_1 : decode cX8_paint 1 = .ok (.invokestatic 245, 3) := by decide +kernel
theorem dX8_paint_4 : decode cX8_paint 4 = .ok (.ifCond .eq 13, 3) := by decide +kernel
theorem dX8_paint_7 : decode cX8_paint 7 = .ok (.iload_n 2, 1) := by decide +kernel
theorem dX8_paint_8 : decode cX8_paint 8 = .ok (.iload_n 3, 1) := by decide +kernel
theorem dX8_paint_9 : decode cX8_paint 9 = .ok (.iload 4, 2) := by decide +kernel
theorem dX8_paint_11 : decode cX8_paint 11 = .ok (.invokestatic 180, 3) := by decide +kernel
theorem dX8_paint_14 : decode cX8_paint 14 = .ok (.ifCond .ne 6, 3) := by decide +kernel
theorem dX8_paint_17 : decode cX8_paint 17 = .ok (.bipush (-2), 2) := by decide +kernel
theorem dX8_paint_19 : decode cX8_paint 19 = .ok (.ireturn, 1) := by decide +kernel
theorem dX8_paint_20 : decode cX8_paint 20 = .ok (.aload_n 0, 1) := by decide +kernel
theorem dX8_paint_21 : decode cX8_paint 21 = .ok (.iload_n 2, 1) := by decide +kernel
theorem dX8_paint_22 : decode cX8_paint 22 = .ok (.iload_n 3, 1) := by decide +kernel
theorem dX8_paint_23 : decode cX8_paint 23 = .ok (.iload 4, 2) := by decide +kernel
theorem dX8_paint_25 : decode cX8_paint 25 = .ok (.invokevirtual 183, 3) := by decide +kernel
theorem dX8_paint_28 : decode cX8_paint 28 = .ok (.ifCond .ne 5, 3) := by decide +kernel
theorem dX8_paint_31 : decode cX8_paint 31 = .ok (.iconst (-1), 1) := by decide +kernel
theorem dX8_paint_32 : decode cX8_paint 32 = .ok (.ireturn, 1) := by decide +kernel
theorem dX8_paint_33 : decode cX8_paint 33 = .ok (.aload_n 0, 1) := by decide +kernel
theorem dX8_paint_34 : decode cX8_paint 34 = .ok (.iload_n 1, 1) := by decide +kernel
theorem dX8_paint_35 : decode cX8_paint 35 = .ok (.iconst 1, 1) := by decide +kernel
theorem dX8_paint_36 : decode cX8_paint 36 = .ok (.invokevirtual 261, 3) := by decide +kernel
theorem dX8_paint_39 : decode cX8_paint 39 = .ok (.aload_n 0, 1) := by decide +kernel
theorem dX8_paint_40 : decode cX8_paint 40 = .ok (.getfield 95, 3) := by decide +kernel
theorem dX8_paint_43 : decode cX8_paint 43 = .ok (.ireturn, 1) := by decide +kernel
def f_X8_paint (N : Nat) (x1 : Int32) (x2 : Int32) (x3 : Int32) (x4 : Int32) (M : Mem) : Option (Int32 × Mem) := bd (f_X8_isSheet N x1 M) (fun v1 => if v1 = 0 then (some ((-2 : Int32), M)) else (bd (f_X8_areAsked N x2 x3 x4 M) (fun v3 => if v3 = 0 then (some ((-2 : Int32), M)) else (bd (f_X8_colours N x2 x3 x4 M) (fun w7 => if w7.1 = 0 then (some ((-1 : Int32), w7.2)) else (bd (f_X8_lays N x1 (1 : Int32) w7.2) (fun M9 => some ((M9.1 0 0), M9))))))))
set_option maxRecDepth 100000 in
set_option maxHeartbeats 4000000 in
theorem c_X8_paint {l : Launch} {D : va_G} {ac : Nat → ClassId} {A : Nat → Prop} {ad : Nat → Nat} {rest : va_W} (N : Nat) (x1 : Int32) (x2 : Int32) (x3 : Int32) (x4 : Int32)  (M : Mem) (r0 : Int32) (M0 : Mem) (hf : f_X8_paint N x1 x2 x3 x4 M = some (r0, M0)) : CtI l D ac A tabM ad rest yX8_paint cX8_paint 5 .int 16 [.ref (ad 0), .int x1, .int x2, .int x3, .int x4] M r0 M0 := by
  refine ct_ofI (own := RX8) (by decide +kernel) rfl (Nat.le_of_ble_eq_true rfl) ?_
  intro p e s m args below meth c C
  unfold f_X8_paint at hf
  refine a_L (L' := [(0, .ref (ad 0)), (1, .int x1), (2, .int x2), (3, .int x3), (4, .int x4)]) rfl ?_
  refine a_iload_n (pc := 0) C dX8_paint_0 1 rfl ?_
  refine a_callS_Ir (pc := 1) (d' := 2) C dX8_paint_1 ml_X8_245 mc_X8_isSheet ms_X8_isSheet [.int x1] rfl (Nat.le_of_ble_eq_true rfl) (Nat.le_of_ble_eq_true rfl) rfl (Nat.le_of_ble_eq_true rfl) (fun r h => c_X8_isSheet N x1  _  r h) hf (fun v1 hf => ?_)
  refine a_if_eq (pc := 4) 17 C dX8_paint_4 (by decide) hf (fun hf => ?_) (fun hf => ?_)
  · refine a_bipush (pc := 17) (v := (-2)) C dX8_paint_17 (by decide) ?_
    exact a_iret (pc := 19) C dX8_paint_19 (so_1 hf) (so_2 hf)
  · refine a_iload_n (pc := 7) C dX8_paint_7 2 rfl ?_
    refine a_iload_n (pc := 8) C dX8_paint_8 3 rfl ?_
    refine a_iload (pc := 9) C dX8_paint_9 4 rfl ?_
    refine a_callS_Ir (pc := 11) (d' := 2) C dX8_paint_11 ml_X8_180 mc_X8_areAsked ms_X8_areAsked [.int x2, .int x3, .int x4] rfl (Nat.le_of_ble_eq_true rfl) (Nat.le_of_ble_eq_true rfl) rfl (Nat.le_of_ble_eq_true rfl) (fun r h => c_X8_areAsked N x2 x3 x4  _  r h) hf (fun v3 hf => ?_)
    refine a_if_ne (pc := 14) 20 C dX8_paint_14 (by decide) hf (fun hf => ?_) (fun hf => ?_)
    · refine a_aload_n (pc := 20) C dX8_paint_20 0 rfl ?_
      refine a_iload_n (pc := 21) C dX8_paint_21 2 rfl ?_
      refine a_iload_n (pc := 22) C dX8_paint_22 3 rfl ?_
      refine a_iload (pc := 23) C dX8_paint_23 4 rfl ?_
      refine a_callV_I (pc := 25) (d' := 15) C dX8_paint_25 ml_X8_183 mc_X8_colours mv_X8_colours tm_0 rfl [.int x2, .int x3, .int x4] rfl (Nat.le_of_ble_eq_true rfl) (Nat.le_of_ble_eq_true rfl) rfl (Nat.le_of_ble_eq_true rfl) (fun r M' h => c_X8_colours N x2 x3 x4  _  r M' h) hf (fun v5 M6 hf => ?_)
      refine a_if_ne (pc := 28) 33 C dX8_paint_28 (by decide) hf (fun hf => ?_) (fun hf => ?_)
      · refine a_aload_n (pc := 33) C dX8_paint_33 0 rfl ?_
        refine a_iload_n (pc := 34) C dX8_paint_34 1 rfl ?_
        refine a_iconst (pc := 35) (v := 1) C dX8_paint_35 (by decide) ?_
        refine a_callV_V (pc := 36) (d' := 1) C dX8_paint_36 ml_X8_261 mc_X8_lays mv_X8_lays tm_0 rfl [.int x1, .int (1 : Int32)] rfl (Nat.le_of_ble_eq_true rfl) (Nat.le_of_ble_eq_true rfl) rfl (Nat.le_of_ble_eq_true rfl) (fun M' h => c_X8_lays N x1 (1 : Int32)  _  M' h) hf (fun M9 hf => ?_)
        refine a_aload_n (pc := 39) C dX8_paint_39 0 rfl ?_
        refine a_getI (pc := 40) C dX8_paint_40 fl_X8_95 tm_0 rfl ?_
        exact a_iret (pc := 43) C dX8_paint_43 (so_1 hf) (so_2 hf)
      · refine a_iconst (pc := 31) (v := (-1)) C dX8_paint_31 (by decide) ?_
        exact a_iret (pc := 32) C dX8_paint_32 (so_1 hf) (so_2 hf)
    · refine a_bipush (pc := 17) (v := (-2)) C dX8_paint_17 (by decide) ?_
      exact a_iret (pc := 19) C dX8_paint_19 (so_1 hf) (so_2 hf)
theorem dX8_whole_0 : decode cX8_whole 0 = .ok (.aload_n 0, 1) := by decide +kernel
theorem dX8_whole_1 : decode cX8_whole 1 = .ok (.getfield 95, 3) := by decide +kernel
theorem dX8_whole_4 : decode cX8_whole 4 = .ok (.ifCond .ne 7, 3) := by decide +kernel
theorem dX8_whole_7 : decode cX8_whole 7 = .ok (.iconst (-1), 1) := by decide +kernel
theorem dX8_whole_8 : decode cX8_whole 8 = .ok (.goto 7, 3) := by decide +kernel
theorem dX8_whole_11 : decode cX8_whole 11 = .ok (.aload_n 0, 1) := by decide +kernel
theorem dX8_whole_12 : decode cX8_whole 12 = .ok (.invokevirtual 233, 3) := by decide +kernel
theorem dX8_whole_15 : decode cX8_whole 15 = .ok (.ireturn, 1) := by decide +kernel
def f_X8_whole (N : Nat)  (M : Mem) : Option (Int32 × Mem) := if (M.1 0 0) = 0 then (some ((-1 : Int32), M)) else (bd (f_X8_wholeOf N  M) (fun w3 => some (w3.1, w3.2)))
set_option maxRecDepth 100000 in
set_option maxHeartbeats 4000000 in
theorem c_X8_whole {l : Launch} {D : va_G} {ac : Nat → ClassId} {A : Nat → Prop} {ad : Nat → Nat} {rest : va_W} (N : Nat)   (M : Mem) (r0 : Int32) (M0 : Mem) (hf : f_X8_whole N  M = some (r0, M0)) : CtI l D ac A tabM ad rest yX8_whole cX8_whole 1 .int 17 [.ref (ad 0)] M r0 M0 := by
  refine ct_ofI (own := RX8) (by decide +kernel) rfl (Nat.le_of_ble_eq_true rfl) ?_
  intro p e s m args below meth c C
  unfold f_X8_whole at hf
  refine a_L (L' := [(0, .ref (ad 0))]) rfl ?_
  refine a_aload_n (pc := 0) C dX8_whole_0 0 rfl ?_
  refine a_getI (pc := 1) C dX8_whole_1 fl_X8_95 tm_0 rfl ?_
  refine a_if_ne (pc := 4) 11 C dX8_whole_4 (by decide) hf (fun hf => ?_) (fun hf => ?_)
  · refine a_aload_n (pc := 11) C dX8_whole_11 0 rfl ?_
    refine a_callV_I (pc := 12) (d' := 16) C dX8_whole_12 ml_X8_233 mc_X8_wholeOf mv_X8_wholeOf tm_0 rfl [] rfl (Nat.le_of_ble_eq_true rfl) (Nat.le_of_ble_eq_true rfl) rfl (Nat.le_of_ble_eq_true rfl) (fun r M' h => c_X8_wholeOf N   _  r M' h) hf (fun v1 M2 hf => ?_)
    exact a_iret (pc := 15) C dX8_whole_15 (so_1 hf) (so_2 hf)
  · refine a_iconst (pc := 7) (v := (-1)) C dX8_whole_7 (by decide) ?_
    refine a_goto (pc := 8) 15 C dX8_whole_8 (by decide) ?_
    exact a_iret (pc := 15) C dX8_whole_15 (so_1 hf) (so_2 hf)
theorem dX8_off_0 : decode cX8_off 0 = .ok (.iload_n 1, 1) := by decide +kernel
theorem dX8_off_1 : decode cX8_off 1 = .ok (.i2l, 1) := by decide +kernel
theorem dX8_off_2 : decode cX8_off 2 = .ok (.lconst 0, 1) := by decide +kernel
theorem dX8_off_3 : decode cX8_off 3 = .ok (.lconst 1, 1) := by decide +kernel
theorem dX8_off_4 : decode cX8_off 4 = .ok (.invokestatic 98, 3) := by decide +kernel
theorem dX8_off_7 : decode cX8_off 7 = .ok (.ifCond .ne 6, 3) := by decide +kernel
theorem dX8_off_10 : decode cX8_off 10 = .ok (.bipush (-2), 2) := by decide +kernel
theorem dX8_off_12 : decode cX8_off 12 = .ok (.ireturn, 1) := by decide +kernel
theorem dX8_off_13 : decode cX8_off 13 = .ok (.aload_n 0, 1) := by decide +kernel
theorem dX8_off_14 : decode cX8_off 14 = .ok (.getfield 102, 3) := by decide +kernel
theorem dX8_off_17 : decode cX8_off 17 = .ok (.ifCond .ne 5, 3) := by decide +kernel
theorem dX8_off_20 : decode cX8_off 20 = .ok (.iconst (-1), 1) := by decide +kernel
theorem dX8_off_21 : decode cX8_off 21 = .ok (.ireturn, 1) := by decide +kernel
theorem dX8_off_22 : decode cX8_off 22 = .ok (.aload_n 0, 1) := by decide +kernel
theorem dX8_off_23 : decode cX8_off 23 = .ok (.invokevirtual 227, 3) := by decide +kernel
theorem dX8_off_26 : decode cX8_off 26 = .ok (.aload_n 0, 1) := by decide +kernel
theorem dX8_off_27 : decode cX8_off 27 = .ok (.iconst 1, 1) := by decide +kernel
theorem dX8_off_28 : decode cX8_off 28 = .ok (.aload_n 0, 1) := by decide +kernel
theorem dX8_off_29 : decode cX8_off 29 = .ok (.getfield 102, 3) := by decide +kernel
theorem dX8_off_32 : decode cX8_off 32 = .ok (.ishl, 1) := by decide +kernel
theorem dX8_off_33 : decode cX8_off 33 = .ok (.iconst 1, 1) := by decide +kernel
theorem dX8_off_34 : decode cX8_off 34 = .ok (.isub, 1) := by decide +kernel
theorem dX8_off_35 : decode cX8_off 35 = .ok (.invokevirtual 230, 3) := by decide +kernel
theorem dX8_off_38 : decode cX8_off 38 = .ok (.aload_n 0, 1) := by decide +kernel
theorem dX8_off_39 : decode cX8_off 39 = .ok (.invokevirtual 233, 3) := by decide +kernel
theorem dX8_off_42 : decode cX8_off 42 = .ok (.aload_n 0, 1) := by decide +kernel
theorem dX8_off_43 : decode cX8_off 43 = .ok (.getfield 218, 3) := by decide +kernel
theorem dX8_off_46 : decode cX8_off 46 = .ok (.imul, 1) := by decide +kernel
theorem dX8_off_47 : decode cX8_off 47 = .ok (.aload_n 0, 1) := by decide +kernel
theorem dX8_off_48 : decode cX8_off 48 = .ok (.getfield 215, 3) := by decide +kernel
theorem dX8_off_51 : decode cX8_off 51 = .ok (.isub, 1) := by decide +kernel
theorem dX8_off_52 : decode cX8_off 52 = .ok (.istore_n 2, 1) := by decide +kernel
theorem dX8_off_53 : decode cX8_off 53 = .ok (.iload_n 2, 1) := by decide +kernel
theorem dX8_off_54 : decode cX8_off 54 = .ok (.aload_n 0, 1) := by decide +kernel
theorem dX8_off_55 : decode cX8_off 55 = .ok (.getfield 218, 3) := by decide +kernel
theorem dX8_off_58 : decode cX8_off 58 = .ok (.invokestatic 224, 3) := by decide +kernel
theorem dX8_off_61 : decode cX8_off 61 = .ok (.istore_n 3, 1) := by decide +kernel
theorem dX8_off_62 : decode cX8_off 62 = .ok (.iload_n 1, 1) := by decide +kernel
theorem dX8_off_63 : decode cX8_off 63 = .ok (.ifCond .ne 7, 3) := by decide +kernel
theorem dX8_off_66 : decode cX8_off 66 = .ok (.iload_n 2, 1) := by decide +kernel
theorem dX8_off_67 : decode cX8_off 67 = .ok (.goto 7, 3) := by decide +kernel
theorem dX8_off_70 : decode cX8_off 70 = .ok (.aload_n 0, 1) := by decide +kernel
theorem dX8_off_71 : decode cX8_off 71 = .ok (.getfield 218, 3) := by decide +kernel
theorem dX8_off_74 : decode cX8_off 74 = .ok (.iload_n 3, 1) := by decide +kernel
theorem dX8_off_75 : decode cX8_off 75 = .ok (.idiv, 1) := by decide +kernel
theorem dX8_off_76 : decode cX8_off 76 = .ok (.ireturn, 1) := by decide +kernel
def f_X8_off (N : Nat) (x1 : Int32) (M : Mem) : Option (Int32 × Mem) := bd (f_X8_in N x1.toInt64 (0 : Int64) (1 : Int64) M) (fun v1 => if v1 = 0 then (some ((-2 : Int32), M)) else (if (M.1 0 1) = 0 then (some ((-1 : Int32), M)) else (bd (f_X8_laysRings N  M) (fun M4 => bd (f_X8_ratios N (((1 : Int32) <<< ((M4.1 0 1) &&& 31)) - (1 : Int32)) M4) (fun M6 => bd (f_X8_wholeOf N  M6) (fun w9 => nm ((w9.1 * (w9.2.1 0 21)) - (w9.2.1 0 20)) (fun v10 => bd (f_X8_common N v10 (w9.2.1 0 21) w9.2) (fun v11 => jn (fun (a74 : Int32) => ck (¬ v11 = 0) (some ((a74 / v11), w9.2))) (fun (k74 : Int32 → Option (Int32 × Mem)) => if x1 = 0 then (k74 v10) else (k74 (w9.2.1 0 21)))))))))))
set_option maxRecDepth 100000 in
set_option maxHeartbeats 4000000 in
theorem c_X8_off {l : Launch} {D : va_G} {ac : Nat → ClassId} {A : Nat → Prop} {ad : Nat → Nat} {rest : va_W} (N : Nat) (x1 : Int32)  (M : Mem) (r0 : Int32) (M0 : Mem) (hf : f_X8_off N x1 M = some (r0, M0)) : CtI l D ac A tabM ad rest yX8_off cX8_off 4 .int 17 [.ref (ad 0), .int x1] M r0 M0 := by
  refine ct_ofI (own := RX8) (by decide +kernel) rfl (Nat.le_of_ble_eq_true rfl) ?_
  intro p e s m args below meth c C
  unfold f_X8_off at hf
  refine a_L (L' := [(0, .ref (ad 0)), (1, .int x1)]) rfl ?_
  refine a_iload_n (pc := 0) C dX8_off_0 1 rfl ?_
  refine a_i2l (pc := 1) C dX8_off_1 ?_
  refine a_lconst (pc := 2) (v := 0) C dX8_off_2 (by decide) ?_
  refine a_lconst (pc := 3) (v := 1) C dX8_off_3 (by decide) ?_
  refine a_callS_Ir (pc := 4) (d' := 1) C dX8_off_4 ml_X8_98 mc_X8_in ms_X8_in [.long x1.toInt64, .long (0 : Int64), .long (1 : Int64)] rfl (Nat.le_of_ble_eq_true rfl) (Nat.le_of_ble_eq_true rfl) rfl (Nat.le_of_ble_eq_true rfl) (fun r h => c_X8_in N x1.toInt64 (0 : Int64) (1 : Int64)  _  r h) hf (fun v1 hf => ?_)
  refine a_if_ne (pc := 7) 13 C dX8_off_7 (by decide) hf (fun hf => ?_) (fun hf => ?_)
  · refine a_aload_n (pc := 13) C dX8_off_13 0 rfl ?_
    refine a_getI (pc := 14) C dX8_off_14 fl_X8_102 tm_0 rfl ?_
    refine a_if_ne (pc := 17) 22 C dX8_off_17 (by decide) hf (fun hf => ?_) (fun hf => ?_)
    · refine a_aload_n (pc := 22) C dX8_off_22 0 rfl ?_
      refine a_callV_V (pc := 23) (d' := 3) C dX8_off_23 ml_X8_227 mc_X8_laysRings mv_X8_laysRings tm_0 rfl [] rfl (Nat.le_of_ble_eq_true rfl) (Nat.le_of_ble_eq_true rfl) rfl (Nat.le_of_ble_eq_true rfl) (fun M' h => c_X8_laysRings N   _  M' h) hf (fun M4 hf => ?_)
      refine a_aload_n (pc := 26) C dX8_off_26 0 rfl ?_
      refine a_iconst (pc := 27) (v := 1) C dX8_off_27 (by decide) ?_
      refine a_aload_n (pc := 28) C dX8_off_28 0 rfl ?_
      refine a_getI (pc := 29) C dX8_off_29 fl_X8_102 tm_0 rfl ?_
      refine a_ishl (pc := 32) C dX8_off_32 ?_
      refine a_iconst (pc := 33) (v := 1) C dX8_off_33 (by decide) ?_
      refine a_isub (pc := 34) C dX8_off_34 ?_
      refine a_callV_V (pc := 35) (d' := 5) C dX8_off_35 ml_X8_230 mc_X8_ratios mv_X8_ratios tm_0 rfl [.int (((1 : Int32) <<< ((M4.1 0 1) &&& 31)) - (1 : Int32))] rfl (Nat.le_of_ble_eq_true rfl) (Nat.le_of_ble_eq_true rfl) rfl (Nat.le_of_ble_eq_true rfl) (fun M' h => c_X8_ratios N (((1 : Int32) <<< ((M4.1 0 1) &&& 31)) - (1 : Int32))  _  M' h) hf (fun M6 hf => ?_)
      refine a_aload_n (pc := 38) C dX8_off_38 0 rfl ?_
      refine a_callV_I (pc := 39) (d' := 16) C dX8_off_39 ml_X8_233 mc_X8_wholeOf mv_X8_wholeOf tm_0 rfl [] rfl (Nat.le_of_ble_eq_true rfl) (Nat.le_of_ble_eq_true rfl) rfl (Nat.le_of_ble_eq_true rfl) (fun r M' h => c_X8_wholeOf N   _  r M' h) hf (fun v7 M8 hf => ?_)
      refine a_aload_n (pc := 42) C dX8_off_42 0 rfl ?_
      refine a_getI (pc := 43) C dX8_off_43 fl_X8_218 tm_0 rfl ?_
      refine a_imul (pc := 46) C dX8_off_46 ?_
      refine a_aload_n (pc := 47) C dX8_off_47 0 rfl ?_
      refine a_getI (pc := 48) C dX8_off_48 fl_X8_215 tm_0 rfl ?_
      refine a_isub (pc := 51) C dX8_off_51 ?_
      refine a_nmi hf (fun v10 hf => ?_)
      refine a_istore_n (pc := 52) [(2, .int v10), (0, .ref (ad 0)), (1, .int x1)] C dX8_off_52 (by decide) rfl ?_
      refine a_iload_n (pc := 53) C dX8_off_53 0 rfl ?_
      refine a_aload_n (pc := 54) C dX8_off_54 1 rfl ?_
      refine a_getI (pc := 55) C dX8_off_55 fl_X8_218 tm_0 rfl ?_
      refine a_callS_Ir (pc := 58) (d' := 1) C dX8_off_58 ml_X8_224 mc_X8_common ms_X8_common [.int v10, .int (M8.1 0 21)] rfl (Nat.le_of_ble_eq_true rfl) (Nat.le_of_ble_eq_true rfl) rfl (Nat.le_of_ble_eq_true rfl) (fun r h => c_X8_common N v10 (M8.1 0 21)  _  r h) hf (fun v11 hf => ?_)
      refine a_istore_n (pc := 61) [(3, .int v11), (2, .int v10), (0, .ref (ad 0)), (1, .int x1)] C dX8_off_61 (by decide) rfl ?_
      refine a_iload_n (pc := 62) C dX8_off_62 3 rfl ?_
      refine a_jn 74 (fun a74 : Int32 => [(3, .int v11)]) (fun a74 : Int32 => [.int a74]) (fun a74 : Int32 => M8) hf (fun a74 hf => ?_) (fun k74 hk74 hf => ?_)
      · refine a_iload_n (pc := 74) C dX8_off_74 0 rfl ?_
        refine a_idiv (pc := 75) C dX8_off_75 hf (fun hf => ?_)
        exact a_iret (pc := 76) C dX8_off_76 (so_1 hf) (so_2 hf)
      · refine a_if_ne (pc := 63) 70 C dX8_off_63 (by decide) hf (fun hf => ?_) (fun hf => ?_)
        · refine a_aload_n (pc := 70) C dX8_off_70 2 rfl ?_
          refine a_getI (pc := 71) C dX8_off_71 fl_X8_218 tm_0 rfl ?_
          exact a_sub [0] rfl (hk74 (M8.1 0 21) hf)
        · refine a_iload_n (pc := 66) C dX8_off_66 1 rfl ?_
          refine a_goto (pc := 67) 74 C dX8_off_67 (by decide) ?_
          exact a_sub [0] rfl (hk74 v10 hf)
    · refine a_iconst (pc := 20) (v := (-1)) C dX8_off_20 (by decide) ?_
      exact a_iret (pc := 21) C dX8_off_21 (so_1 hf) (so_2 hf)
  · refine a_bipush (pc := 10) (v := (-2)) C dX8_off_10 (by decide) ?_
    exact a_iret (pc := 12) C dX8_off_12 (so_1 hf) (so_2 hf)
