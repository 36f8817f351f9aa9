theorem dX7_refusalOfFractions_0 : decode cX7_refusalOfFractions 0 = .ok (.iload_n 1, 1) := by decide +kernel
theorem dX7_refusalOfFractions_1 : decode cX7_refusalOfFractions 1 = .ok (.invokestatic 257, 3) := by decide +kernel
theorem dX7_refusalOfFractions_4 : decode cX7_refusalOfFractions 4 = .ok (.ifCond .eq 10, 3) := by decide +kernel
theorem dX7_refusalOfFractions_7 : decode cX7_refusalOfFractions 7 = .ok (.iload_n 2, 1) := by decide +kernel
theorem dX7_refusalOfFractions_8 : decode cX7_refusalOfFractions 8 = .ok (.invokestatic 257, 3) := by decide +kernel
theorem dX7_refusalOfFractions_11 : decode cX7_refusalOfFractions 11 = .ok (.ifCond .ne 6, 3) := by decide +kernel
theorem dX7_refusalOfFractions_14 : decode cX7_refusalOfFractions 14 = .ok (.bipush (-2), 2) := by decide +kernel
theorem dX7_refusalOfFractions_16 : decode cX7_refusalOfFractions 16 = .ok (.ireturn, 1) := by decide +kernel
theorem dX7_refusalOfFractions_17 : decode cX7_refusalOfFractions 17 = .ok (.aload_n 0, 1) := by decide +kernel
theorem dX7_refusalOfFractions_18 : decode cX7_refusalOfFractions 18 = .ok (.getfield 52, 3) := by decide +kernel
theorem dX7_refusalOfFractions_21 : decode cX7_refusalOfFractions 21 = .ok (.iload_n 1, 1) := by decide +kernel
theorem dX7_refusalOfFractions_22 : decode cX7_refusalOfFractions 22 = .ok (.aaload, 1) := by decide +kernel
theorem dX7_refusalOfFractions_23 : decode cX7_refusalOfFractions 23 = .ok (.getfield 264, 3) := by decide +kernel
theorem dX7_refusalOfFractions_26 : decode cX7_refusalOfFractions 26 = .ok (.ifCond .eq 15, 3) := by decide +kernel
theorem dX7_refusalOfFractions_29 : decode cX7_refusalOfFractions 29 = .ok (.aload_n 0, 1) := by decide +kernel
theorem dX7_refusalOfFractions_30 : decode cX7_refusalOfFractions 30 = .ok (.getfield 52, 3) := by decide +kernel
theorem dX7_refusalOfFractions_33 : decode cX7_refusalOfFractions 33 = .ok (.iload_n 2, 1) := by decide +kernel
theorem dX7_refusalOfFractions_34 : decode cX7_refusalOfFractions 34 = .ok (.aaload, 1) := by decide +kernel
theorem dX7_refusalOfFractions_35 : decode cX7_refusalOfFractions 35 = .ok (.getfield 264, 3) := by decide +kernel
theorem dX7_refusalOfFractions_38 : decode cX7_refusalOfFractions 38 = .ok (.ifCond .ne 6, 3) := by decide +kernel
theorem dX7_refusalOfFractions_41 : decode cX7_refusalOfFractions 41 = .ok (.bipush (-11), 2) := by decide +kernel
theorem dX7_refusalOfFractions_43 : decode cX7_refusalOfFractions 43 = .ok (.ireturn, 1) := by decide +kernel
theorem dX7_refusalOfFractions_44 : decode cX7_refusalOfFractions 44 = .ok (.aload_n 0, 1) := by decide +kernel
theorem dX7_refusalOfFractions_45 : decode cX7_refusalOfFractions 45 = .ok (.getfield 52, 3) := by decide +kernel
theorem dX7_refusalOfFractions_48 : decode cX7_refusalOfFractions 48 = .ok (.iload_n 1, 1) := by decide +kernel
theorem dX7_refusalOfFractions_49 : decode cX7_refusalOfFractions 49 = .ok (.aaload, 1) := by decide +kernel
theorem dX7_refusalOfFractions_50 : decode cX7_refusalOfFractions 50 = .ok (.getfield 264, 3) := by decide +kernel
theorem dX7_refusalOfFractions_53 : decode cX7_refusalOfFractions 53 = .ok (.iconst 1, 1) := by decide +kernel
theorem dX7_refusalOfFractions_54 : decode cX7_refusalOfFractions 54 = .ok (.if_icmp .ne 20, 3) := by decide +kernel
theorem dX7_refusalOfFractions_57 : decode cX7_refusalOfFractions 57 = .ok (.aload_n 0, 1) := by decide +kernel
theorem dX7_refusalOfFractions_58 : decode cX7_refusalOfFractions 58 = .ok (.getfield 52, 3) := by decide +kernel
theorem dX7_refusalOfFractions_61 : decode cX7_refusalOfFractions 61 = .ok (.iload_n 2, 1) := by decide +kernel
theorem dX7_refusalOfFractions_62 : decode cX7_refusalOfFractions 62 = .ok (.aaload, 1) := by decide +kernel
theorem dX7_refusalOfFractions_63 : decode cX7_refusalOfFractions 63 = .ok (.getfield 264, 3) := by decide +kernel
theorem dX7_refusalOfFractions_66 : decode cX7_refusalOfFractions 66 = .ok (.iconst 1, 1) := by decide +kernel
theorem dX7_refusalOfFractions_67 : decode cX7_refusalOfFractions 67 = .ok (.if_icmp .ne 7, 3) := by decide +kernel
theorem dX7_refusalOfFractions_70 : decode cX7_refusalOfFractions 70 = .ok (.iconst 0, 1) := by decide +kernel
theorem dX7_refusalOfFractions_71 : decode cX7_refusalOfFractions 71 = .ok (.goto 5, 3) := by decide +kernel
theorem dX7_refusalOfFractions_74 : decode cX7_refusalOfFractions 74 = .ok (.bipush (-13), 2) := by decide +kernel
theorem dX7_refusalOfFractions_76 : decode cX7_refusalOfFractions 76 = .ok (.ireturn, 1) := by decide +kernel
def f_X7_refusalOfFractions (N : Nat) (x1 : Int32) (x2 : Int32) (M : Mem) : Option (Int32) := bd (f_X7_isHold N x1 M) (fun v1 => if v1 = 0 then (some (-2 : Int32)) else (bd (f_X7_isHold N x2 M) (fun v3 => if v3 = 0 then (some (-2 : Int32)) else (ck (inb x1 4) (if (M.1 (holdC x1.toNatClampNeg) 0) = 0 then (some (-11 : Int32)) else (ck (inb x2 4) (if (M.1 (holdC x2.toNatClampNeg) 0) = 0 then (some (-11 : Int32)) else (ck (inb x1 4) (jn (fun (a74 : Unit) => some (-13 : Int32)) (fun (k74 : Unit → Option (Int32)) => if (M.1 (holdC x1.toNatClampNeg) 0) = (1 : Int32) then (ck (inb x2 4) (if (M.1 (holdC x2.toNatClampNeg) 0) = (1 : Int32) then (some (0 : Int32)) else (k74 ()))) else (k74 ())))))))))))
set_option maxRecDepth 100000 in
set_option maxHeartbeats 4000000 in
theorem c_X7_refusalOfFractions {l : Launch} {D : va_G} {ac : Nat → ClassId} {A : Nat → Prop} {ad : Nat → Nat} {rest : va_W} (N : Nat) (x1 : Int32) (x2 : Int32)  (M : Mem) (r0 : Int32) (hf : f_X7_refusalOfFractions N x1 x2 M = some r0) : CtI l D ac A tabX ad rest yX7_refusalOfFractions cX7_refusalOfFractions 3 .int 3 [.ref (ad 0), .int x1, .int x2] M r0 M := by
  refine ct_ofI (own := RX7) (by decide +kernel) rfl (Nat.le_of_ble_eq_true rfl) ?_
  intro p e s m args below meth c C
  unfold f_X7_refusalOfFractions at hf
  refine a_L (L' := [(0, .ref (ad 0)), (1, .int x1), (2, .int x2)]) rfl ?_
  refine a_iload_n (pc := 0) C dX7_refusalOfFractions_0 1 rfl ?_
  refine a_callS_Ir (pc := 1) (d' := 2) C dX7_refusalOfFractions_1 ml_X7_257 mc_X7_isHold ms_X7_isHold [.int x1] rfl (Nat.le_of_ble_eq_true rfl) (Nat.le_of_ble_eq_true rfl) rfl (Nat.le_of_ble_eq_true rfl) (fun r h => c_X7_isHold N x1  _  r h) hf (fun v1 hf => ?_)
  refine a_if_eq (pc := 4) 14 C dX7_refusalOfFractions_4 (by decide) hf (fun hf => ?_) (fun hf => ?_)
  · refine a_bipush (pc := 14) (v := (-2)) C dX7_refusalOfFractions_14 (by decide) ?_
    exact a_iret (pc := 16) C dX7_refusalOfFractions_16 (Option.some.inj hf) rfl
  · refine a_iload_n (pc := 7) C dX7_refusalOfFractions_7 2 rfl ?_
    refine a_callS_Ir (pc := 8) (d' := 2) C dX7_refusalOfFractions_8 ml_X7_257 mc_X7_isHold ms_X7_isHold [.int x2] rfl (Nat.le_of_ble_eq_true rfl) (Nat.le_of_ble_eq_true rfl) rfl (Nat.le_of_ble_eq_true rfl) (fun r h => c_X7_isHold N x2  _  r h) hf (fun v3 hf => ?_)
    refine a_if_ne (pc := 11) 17 C dX7_refusalOfFractions_11 (by decide) hf (fun hf => ?_) (fun hf => ?_)
    · refine a_aload_n (pc := 17) C dX7_refusalOfFractions_17 0 rfl ?_
      refine a_getR (pc := 18) C dX7_refusalOfFractions_18 fl_X7_52 tx_0 rfl ?_
      refine a_iload_n (pc := 21) C dX7_refusalOfFractions_21 1 rfl ?_
      have hx5 := (ck_some hf).1
      refine a_aald (pc := 22) C dX7_refusalOfFractions_22 tx_34 rfl hf (fun hf => ?_)
      refine a_getI (pc := 23) C dX7_refusalOfFractions_23 fl_X7_264 (hold_at hx5) rfl ?_
      refine a_if_eq (pc := 26) 41 C dX7_refusalOfFractions_26 (by decide) hf (fun hf => ?_) (fun hf => ?_)
      · refine a_bipush (pc := 41) (v := (-11)) C dX7_refusalOfFractions_41 (by decide) ?_
        exact a_iret (pc := 43) C dX7_refusalOfFractions_43 (Option.some.inj hf) rfl
      · refine a_aload_n (pc := 29) C dX7_refusalOfFractions_29 0 rfl ?_
        refine a_getR (pc := 30) C dX7_refusalOfFractions_30 fl_X7_52 tx_0 rfl ?_
        refine a_iload_n (pc := 33) C dX7_refusalOfFractions_33 2 rfl ?_
        have hx6 := (ck_some hf).1
        refine a_aald (pc := 34) C dX7_refusalOfFractions_34 tx_34 rfl hf (fun hf => ?_)
        refine a_getI (pc := 35) C dX7_refusalOfFractions_35 fl_X7_264 (hold_at hx6) rfl ?_
        refine a_if_ne (pc := 38) 44 C dX7_refusalOfFractions_38 (by decide) hf (fun hf => ?_) (fun hf => ?_)
        · refine a_aload_n (pc := 44) C dX7_refusalOfFractions_44 0 rfl ?_
          refine a_getR (pc := 45) C dX7_refusalOfFractions_45 fl_X7_52 tx_0 rfl ?_
          refine a_iload_n (pc := 48) C dX7_refusalOfFractions_48 1 rfl ?_
          have hx7 := (ck_some hf).1
          refine a_aald (pc := 49) C dX7_refusalOfFractions_49 tx_34 rfl hf (fun hf => ?_)
          refine a_getI (pc := 50) C dX7_refusalOfFractions_50 fl_X7_264 (hold_at hx7) rfl ?_
          refine a_iconst (pc := 53) (v := 1) C dX7_refusalOfFractions_53 (by decide) ?_
          refine a_jn 74 (fun a74 : Unit => []) (fun a74 : Unit => []) (fun a74 : Unit => M) hf (fun a74 hf => ?_) (fun k74 hk74 hf => ?_)
          · refine a_bipush (pc := 74) (v := (-13)) C dX7_refusalOfFractions_74 (by decide) ?_
            exact a_iret (pc := 76) C dX7_refusalOfFractions_76 (Option.some.inj hf) rfl
          · refine a_icmp_ne (pc := 54) 74 C dX7_refusalOfFractions_54 (by decide) hf (fun hf => ?_) (fun hf => ?_)
            · exact a_sub [] rfl (hk74 () hf)
            · refine a_aload_n (pc := 57) C dX7_refusalOfFractions_57 0 rfl ?_
              refine a_getR (pc := 58) C dX7_refusalOfFractions_58 fl_X7_52 tx_0 rfl ?_
              refine a_iload_n (pc := 61) C dX7_refusalOfFractions_61 2 rfl ?_
              have hx8 := (ck_some hf).1
              refine a_aald (pc := 62) C dX7_refusalOfFractions_62 tx_34 rfl hf (fun hf => ?_)
              refine a_getI (pc := 63) C dX7_refusalOfFractions_63 fl_X7_264 (hold_at hx8) rfl ?_
              refine a_iconst (pc := 66) (v := 1) C dX7_refusalOfFractions_66 (by decide) ?_
              refine a_icmp_ne (pc := 67) 74 C dX7_refusalOfFractions_67 (by decide) hf (fun hf => ?_) (fun hf => ?_)
              · exact a_sub [] rfl (hk74 () hf)
              · refine a_iconst (pc := 70) (v := 0) C dX7_refusalOfFractions_70 (by decide) ?_
                refine a_goto (pc := 71) 76 C dX7_refusalOfFractions_71 (by decide) ?_
                exact a_iret (pc := 76) C dX7_refusalOfFractions_76 (Option.some.inj hf) rfl
        · refine a_bipush (pc := 41) (v := (-11)) C dX7_refusalOfFractions_41 (by decide) ?_
          exact a_iret (pc := 43) C dX7_refusalOfFractions_43 (Option.some.inj hf) rfl
    · refine a_bipush (pc := 14) (v := (-2)) C dX7_refusalOfFractions_14 (by decide) ?_
      exact a_iret (pc := 16) C dX7_refusalOfFractions_16 (Option.some.inj hf) rfl
theorem dX8_line_0 : decode cX8_line 0 = .ok (.iload_n 1, 1) := by decide +kernel
theorem dX8_line_1 : decode cX8_line 1 = .ok (.i2l, 1) := by decide +kernel
theorem dX8_line_2 : decode cX8_line 2 = .ok (.lconst 0, 1) := by decide +kernel
theorem dX8_line_3 : decode cX8_line 3 = .ok (.ldc2_w 118, 3) := by decide +kernel
theorem dX8_line_6 : decode cX8_line 6 = .ok (.invokestatic 98, 3) := by decide +kernel
theorem dX8_line_9 : decode cX8_line 9 = .ok (.ifCond .eq 38, 3) := by decide +kernel
theorem dX8_line_12 : decode cX8_line 12 = .ok (.iload_n 2, 1) := by decide +kernel
theorem dX8_line_13 : decode cX8_line 13 = .ok (.i2l, 1) := by decide +kernel
theorem dX8_line_14 : decode cX8_line 14 = .ok (.lconst 1, 1) := by decide +kernel
theorem dX8_line_15 : decode cX8_line 15 = .ok (.ldc2_w 120, 3) := by decide +kernel
theorem dX8_line_18 : decode cX8_line 18 = .ok (.invokestatic 98, 3) := by decide +kernel
theorem dX8_line_21 : decode cX8_line 21 = .ok (.ifCond .eq 26, 3) := by decide +kernel
theorem dX8_line_24 : decode cX8_line 24 = .ok (.aload_n 0, 1) := by decide +kernel
theorem dX8_line_25 : decode cX8_line 25 = .ok (.iload_n 3, 1) := by decide +kernel
theorem dX8_line_26 : decode cX8_line 26 = .ok (.invokevirtual 122, 3) := by decide +kernel
theorem dX8_line_29 : decode cX8_line 29 = .ok (.ifCond .eq 18, 3) := by decide +kernel
theorem dX8_line_32 : decode cX8_line 32 = .ok (.aload_n 0, 1) := by decide +kernel
theorem dX8_line_33 : decode cX8_line 33 = .ok (.iload 4, 2) := by decide +kernel
theorem dX8_line_35 : decode cX8_line 35 = .ok (.invokevirtual 122, 3) := by decide +kernel
theorem dX8_line_38 : decode cX8_line 38 = .ok (.ifCond .eq 9, 3) := by decide +kernel
theorem dX8_line_41 : decode cX8_line 41 = .ok (.iload_n 3, 1) := by decide +kernel
theorem dX8_line_42 : decode cX8_line 42 = .ok (.iload 4, 2) := by decide +kernel
theorem dX8_line_44 : decode cX8_line 44 = .ok (.if_icmp .ne 6, 3) := by decide +kernel
theorem dX8_line_47 : decode cX8_line 47 = .ok (.bipush (-2), 2) := by decide +kernel
theorem dX8_line_49 : decode cX8_line 49 = .ok (.ireturn, 1) := by decide +kernel
theorem dX8_line_50 : decode cX8_line 50 = .ok (.aload_n 0, 1) := by decide +kernel
theorem dX8_line_51 : decode cX8_line 51 = .ok (.iload_n 3, 1) := by decide +kernel
theorem dX8_line_52 : decode cX8_line 52 = .ok (.iload 4, 2) := by decide +kernel
theorem dX8_line_54 : decode cX8_line 54 = .ok (.invokevirtual 126, 3) := by decide +kernel
theorem dX8_line_57 : decode cX8_line 57 = .ok (.iconst (-1), 1) := by decide +kernel
theorem dX8_line_58 : decode cX8_line 58 = .ok (.if_icmp .eq 6, 3) := by decide +kernel
theorem dX8_line_61 : decode cX8_line 61 = .ok (.bipush (-3), 2) := by decide +kernel
theorem dX8_line_63 : decode cX8_line 63 = .ok (.ireturn, 1) := by decide +kernel
theorem dX8_line_64 : decode cX8_line 64 = .ok (.aload_n 0, 1) := by decide +kernel
theorem dX8_line_65 : decode cX8_line 65 = .ok (.getfield 102, 3) := by decide +kernel
theorem dX8_line_68 : decode cX8_line 68 = .ok (.bipush 10, 2) := by decide +kernel
theorem dX8_line_70 : decode cX8_line 70 = .ok (.if_icmp .ne 6, 3) := by decide +kernel
theorem dX8_line_73 : decode cX8_line 73 = .ok (.bipush (-4), 2) := by decide +kernel
theorem dX8_line_75 : decode cX8_line 75 = .ok (.ireturn, 1) := by decide +kernel
theorem dX8_line_76 : decode cX8_line 76 = .ok (.aload_n 0, 1) := by decide +kernel
theorem dX8_line_77 : decode cX8_line 77 = .ok (.iload_n 1, 1) := by decide +kernel
theorem dX8_line_78 : decode cX8_line 78 = .ok (.iload_n 2, 1) := by decide +kernel
theorem dX8_line_79 : decode cX8_line 79 = .ok (.iload_n 3, 1) := by decide +kernel
theorem dX8_line_80 : decode cX8_line 80 = .ok (.iload 4, 2) := by decide +kernel
theorem dX8_line_82 : decode cX8_line 82 = .ok (.invokevirtual 130, 3) := by decide +kernel
theorem dX8_line_85 : decode cX8_line 85 = .ok (.aload_n 0, 1) := by decide +kernel
theorem dX8_line_86 : decode cX8_line 86 = .ok (.getfield 102, 3) := by decide +kernel
theorem dX8_line_89 : decode cX8_line 89 = .ok (.iconst 1, 1) := by decide +kernel
theorem dX8_line_90 : decode cX8_line 90 = .ok (.isub, 1) := by decide +kernel
theorem dX8_line_91 : decode cX8_line 91 = .ok (.ireturn, 1) := by decide +kernel
def f_X8_line (N : Nat) (x1 : Int32) (x2 : Int32) (x3 : Int32) (x4 : Int32) (M : Mem) : Option (Int32 × Mem) := bd (f_X8_in N x1.toInt64 (0 : Int64) (4 : Int64) M) (fun v1 => if v1 = 0 then (some ((-2 : Int32), M)) else (bd (f_X8_in N x2.toInt64 (1 : Int64) (3 : Int64) M) (fun v3 => if v3 = 0 then (some ((-2 : Int32), M)) else (bd (f_X8_isPoint N x3 M) (fun v5 => if v5 = 0 then (some ((-2 : Int32), M)) else (bd (f_X8_isPoint N x4 M) (fun v7 => if v7 = 0 then (some ((-2 : Int32), M)) else (if x3 = x4 then (some ((-2 : Int32), M)) else (bd (f_X8_between N x3 x4 M) (fun v9 => if v9 = (-1 : Int32) then (if (M.1 0 1) = (10 : Int32) then (some ((-4 : Int32), M)) else (bd (f_X8_lineComes N x1 x2 x3 x4 M) (fun M12 => some (((M12.1 0 1) - (1 : Int32)), M12)))) else (some ((-3 : Int32), M))))))))))))
set_option maxRecDepth 100000 in
set_option maxHeartbeats 4000000 in
theorem c_X8_line {l : Launch} {D : va_G} {ac : Nat → ClassId} {A : Nat → Prop} {ad : Nat → Nat} {rest : va_W} (N : Nat) (x1 : Int32) (x2 : Int32) (x3 : Int32) (x4 : Int32)  (M : Mem) (r0 : Int32) (M0 : Mem) (hf : f_X8_line N x1 x2 x3 x4 M = some (r0, M0)) : CtI l D ac A tabM ad rest yX8_line cX8_line 5 .int 3 [.ref (ad 0), .int x1, .int x2, .int x3, .int x4] M r0 M0 := by
  refine ct_ofI (own := RX8) (by decide +kernel) rfl (Nat.le_of_ble_eq_true rfl) ?_
  intro p e s m args below meth c C
  unfold f_X8_line at hf
  refine a_L (L' := [(0, .ref (ad 0)), (1, .int x1), (2, .int x2), (3, .int x3), (4, .int x4)]) rfl ?_
  refine a_iload_n (pc := 0) C dX8_line_0 1 rfl ?_
  refine a_i2l (pc := 1) C dX8_line_1 ?_
  refine a_lconst (pc := 2) (v := 0) C dX8_line_2 (by decide) ?_
  refine a_ldc2 (pc := 3) C dX8_line_3 cj_X8_118 ?_
  refine a_callS_Ir (pc := 6) (d' := 1) C dX8_line_6 ml_X8_98 mc_X8_in ms_X8_in [.long x1.toInt64, .long (0 : Int64), .long (4 : Int64)] rfl (Nat.le_of_ble_eq_true rfl) (Nat.le_of_ble_eq_true rfl) rfl (Nat.le_of_ble_eq_true rfl) (fun r h => c_X8_in N x1.toInt64 (0 : Int64) (4 : Int64)  _  r h) hf (fun v1 hf => ?_)
  refine a_if_eq (pc := 9) 47 C dX8_line_9 (by decide) hf (fun hf => ?_) (fun hf => ?_)
  · refine a_bipush (pc := 47) (v := (-2)) C dX8_line_47 (by decide) ?_
    exact a_iret (pc := 49) C dX8_line_49 (so_1 hf) (so_2 hf)
  · refine a_iload_n (pc := 12) C dX8_line_12 2 rfl ?_
    refine a_i2l (pc := 13) C dX8_line_13 ?_
    refine a_lconst (pc := 14) (v := 1) C dX8_line_14 (by decide) ?_
    refine a_ldc2 (pc := 15) C dX8_line_15 cj_X8_120 ?_
    refine a_callS_Ir (pc := 18) (d' := 1) C dX8_line_18 ml_X8_98 mc_X8_in ms_X8_in [.long x2.toInt64, .long (1 : Int64), .long (3 : Int64)] rfl (Nat.le_of_ble_eq_true rfl) (Nat.le_of_ble_eq_true rfl) rfl (Nat.le_of_ble_eq_true rfl) (fun r h => c_X8_in N x2.toInt64 (1 : Int64) (3 : Int64)  _  r h) hf (fun v3 hf => ?_)
    refine a_if_eq (pc := 21) 47 C dX8_line_21 (by decide) hf (fun hf => ?_) (fun hf => ?_)
    · refine a_bipush (pc := 47) (v := (-2)) C dX8_line_47 (by decide) ?_
      exact a_iret (pc := 49) C dX8_line_49 (so_1 hf) (so_2 hf)
    · refine a_aload_n (pc := 24) C dX8_line_24 0 rfl ?_
      refine a_iload_n (pc := 25) C dX8_line_25 3 rfl ?_
      refine a_callV_Ir (pc := 26) (d' := 2) C dX8_line_26 ml_X8_122 mc_X8_isPoint mv_X8_isPoint tm_0 rfl [.int x3] rfl (Nat.le_of_ble_eq_true rfl) (Nat.le_of_ble_eq_true rfl) rfl (Nat.le_of_ble_eq_true rfl) (fun r h => c_X8_isPoint N x3  _  r h) hf (fun v5 hf => ?_)
      refine a_if_eq (pc := 29) 47 C dX8_line_29 (by decide) hf (fun hf => ?_) (fun hf => ?_)
      · refine a_bipush (pc := 47) (v := (-2)) C dX8_line_47 (by decide) ?_
        exact a_iret (pc := 49) C dX8_line_49 (so_1 hf) (so_2 hf)
      · refine a_aload_n (pc := 32) C dX8_line_32 0 rfl ?_
        refine a_iload (pc := 33) C dX8_line_33 4 rfl ?_
        refine a_callV_Ir (pc := 35) (d' := 2) C dX8_line_35 ml_X8_122 mc_X8_isPoint mv_X8_isPoint tm_0 rfl [.int x4] rfl (Nat.le_of_ble_eq_true rfl) (Nat.le_of_ble_eq_true rfl) rfl (Nat.le_of_ble_eq_true rfl) (fun r h => c_X8_isPoint N x4  _  r h) hf (fun v7 hf => ?_)
        refine a_if_eq (pc := 38) 47 C dX8_line_38 (by decide) hf (fun hf => ?_) (fun hf => ?_)
        · refine a_bipush (pc := 47) (v := (-2)) C dX8_line_47 (by decide) ?_
          exact a_iret (pc := 49) C dX8_line_49 (so_1 hf) (so_2 hf)
        · refine a_iload_n (pc := 41) C dX8_line_41 3 rfl ?_
          refine a_iload (pc := 42) C dX8_line_42 4 rfl ?_
          refine a_icmp_ne (pc := 44) 50 C dX8_line_44 (by decide) hf (fun hf => ?_) (fun hf => ?_)
          · refine a_aload_n (pc := 50) C dX8_line_50 0 rfl ?_
            refine a_iload_n (pc := 51) C dX8_line_51 3 rfl ?_
            refine a_iload (pc := 52) C dX8_line_52 4 rfl ?_
            refine a_callV_Ir (pc := 54) (d' := 1) C dX8_line_54 ml_X8_126 mc_X8_between mv_X8_between tm_0 rfl [.int x3, .int x4] rfl (Nat.le_of_ble_eq_true rfl) (Nat.le_of_ble_eq_true rfl) rfl (Nat.le_of_ble_eq_true rfl) (fun r h => c_X8_between N x3 x4  _  r h) hf (fun v9 hf => ?_)
            refine a_iconst (pc := 57) (v := (-1)) C dX8_line_57 (by decide) ?_
            refine a_icmp_eq (pc := 58) 64 C dX8_line_58 (by decide) hf (fun hf => ?_) (fun hf => ?_)
            · refine a_aload_n (pc := 64) C dX8_line_64 0 rfl ?_
              refine a_getI (pc := 65) C dX8_line_65 fl_X8_102 tm_0 rfl ?_
              refine a_bipush (pc := 68) (v := 10) C dX8_line_68 (by decide) ?_
              refine a_icmp_ne (pc := 70) 76 C dX8_line_70 (by decide) hf (fun hf => ?_) (fun hf => ?_)
              · refine a_aload_n (pc := 76) C dX8_line_76 0 rfl ?_
                refine a_iload_n (pc := 77) C dX8_line_77 1 rfl ?_
                refine a_iload_n (pc := 78) C dX8_line_78 2 rfl ?_
                refine a_iload_n (pc := 79) C dX8_line_79 3 rfl ?_
                refine a_iload (pc := 80) C dX8_line_80 4 rfl ?_
                refine a_callV_V (pc := 82) (d' := 1) C dX8_line_82 ml_X8_130 mc_X8_lineComes mv_X8_lineComes tm_0 rfl [.int x1, .int x2, .int x3, .int x4] rfl (Nat.le_of_ble_eq_true rfl) (Nat.le_of_ble_eq_true rfl) rfl (Nat.le_of_ble_eq_true rfl) (fun M' h => c_X8_lineComes N x1 x2 x3 x4  _  M' h) hf (fun M12 hf => ?_)
                refine a_aload_n (pc := 85) C dX8_line_85 0 rfl ?_
                refine a_getI (pc := 86) C dX8_line_86 fl_X8_102 tm_0 rfl ?_
                refine a_iconst (pc := 89) (v := 1) C dX8_line_89 (by decide) ?_
                refine a_isub (pc := 90) C dX8_line_90 ?_
                exact a_iret (pc := 91) C dX8_line_91 (so_1 hf) (so_2 hf)
              · refine a_bipush (pc := 73) (v := (-4)) C dX8_line_73 (by decide) ?_
                exact a_iret (pc := 75) C dX8_line_75 (so_1 hf) (so_2 hf)
            · refine a_bipush (pc := 61) (v := (-3)) C dX8_line_61 (by decide) ?_
              exact a_iret (pc := 63) C dX8_line_63 (so_1 hf) (so_2 hf)
          · refine a_bipush (pc := 47) (v := (-2)) C dX8_line_47 (by decide) ?_
            exact a_iret (pc := 49) C dX8_line_49 (so_1 hf) (so_2 hf)
theorem dX8_lineOf_0 : decode cX8_lineOf 0 = .ok (.aload_n 0, 1) := by decide +kernel
theorem dX8_lineOf_1 : decode cX8_lineOf 1 = .ok (.iload_n 1, 1) := by decide +kernel
theorem dX8_lineOf_2 : decode cX8_lineOf 2 = .ok (.invokevirtual 134, 3) := by decide +kernel
theorem dX8_lineOf_5 : decode cX8_lineOf 5 = .ok (.ifCond .ne 6, 3) := by decide +kernel
theorem dX8_lineOf_8 : decode cX8_lineOf 8 = .ok (.bipush (-2), 2) := by decide +kernel
theorem dX8_lineOf_10 : decode cX8_lineOf 10 = .ok (.ireturn, 1) := by decide +kernel
theorem dX8_lineOf_11 : decode cX8_lineOf 11 = .ok (.iload_n 2, 1) := by decide +kernel
theorem dX8_lineOf_12 : decode cX8_lineOf 12 = .ok (.tableswitch 70 0 4 #[36, 43, 50, 56, 63], 36) := by decide +kernel
theorem dX8_lineOf_48 : decode cX8_lineOf 48 = .ok (.aload_n 0, 1) := by decide +kernel
theorem dX8_lineOf_49 : decode cX8_lineOf 49 = .ok (.getfield 13, 3) := by decide +kernel
theorem dX8_lineOf_52 : decode cX8_lineOf 52 = .ok (.iload_n 1, 1) := by decide +kernel
theorem dX8_lineOf_53 : decode cX8_lineOf 53 = .ok (.iaload, 1) := by decide +kernel
theorem dX8_lineOf_54 : decode cX8_lineOf 54 = .ok (.ireturn, 1) := by decide +kernel
theorem dX8_lineOf_55 : decode cX8_lineOf 55 = .ok (.aload_n 0, 1) := by decide +kernel
theorem dX8_lineOf_56 : decode cX8_lineOf 56 = .ok (.getfield 17, 3) := by decide +kernel
theorem dX8_lineOf_59 : decode cX8_lineOf 59 = .ok (.iload_n 1, 1) := by decide +kernel
theorem dX8_lineOf_60 : decode cX8_lineOf 60 = .ok (.iaload, 1) := by decide +kernel
theorem dX8_lineOf_61 : decode cX8_lineOf 61 = .ok (.ireturn, 1) := by decide +kernel
theorem dX8_lineOf_62 : decode cX8_lineOf 62 = .ok (.aload_n 0, 1) := by decide +kernel
theorem dX8_lineOf_63 : decode cX8_lineOf 63 = .ok (.iload_n 1, 1) := by decide +kernel
theorem dX8_lineOf_64 : decode cX8_lineOf 64 = .ok (.invokevirtual 137, 3) := by decide +kernel
theorem dX8_lineOf_67 : decode cX8_lineOf 67 = .ok (.ireturn, 1) := by decide +kernel
theorem dX8_lineOf_68 : decode cX8_lineOf 68 = .ok (.aload_n 0, 1) := by decide +kernel
theorem dX8_lineOf_69 : decode cX8_lineOf 69 = .ok (.getfield 20, 3) := by decide +kernel
theorem dX8_lineOf_72 : decode cX8_lineOf 72 = .ok (.iload_n 1, 1) := by decide +kernel
theorem dX8_lineOf_73 : decode cX8_lineOf 73 = .ok (.iaload, 1) := by decide +kernel
theorem dX8_lineOf_74 : decode cX8_lineOf 74 = .ok (.ireturn, 1) := by decide +kernel
theorem dX8_lineOf_75 : decode cX8_lineOf 75 = .ok (.aload_n 0, 1) := by decide +kernel
theorem dX8_lineOf_76 : decode cX8_lineOf 76 = .ok (.getfield 23, 3) := by decide +kernel
theorem dX8_lineOf_79 : decode cX8_lineOf 79 = .ok (.iload_n 1, 1) := by decide +kernel
theorem dX8_lineOf_80 : decode cX8_lineOf 80 = .ok (.iaload, 1) := by decide +kernel
theorem dX8_lineOf_81 : decode cX8_lineOf 81 = .ok (.ireturn, 1) := by decide +kernel
theorem dX8_lineOf_82 : decode cX8_lineOf 82 = .ok (.bipush (-2), 2) := by decide +kernel
theorem dX8_lineOf_84 : decode cX8_lineOf 84 = .ok (.ireturn, 1) := by decide +kernel
def f_X8_lineOf (N : Nat) (x1 : Int32) (x2 : Int32) (M : Mem) : Option (Int32) := bd (f_X8_isLine N x1 M) (fun v1 => if v1 = 0 then (some (-2 : Int32)) else (if x2 = 0 then (ck (inb x1 10) (some (M.1 1 x1.toNatClampNeg))) else if x2 = 1 then (ck (inb x1 10) (some (M.1 2 x1.toNatClampNeg))) else if x2 = 2 then (bd (f_X8_gap N x1 M) (fun v6 => some v6)) else if x2 = 3 then (ck (inb x1 10) (some (M.1 3 x1.toNatClampNeg))) else if x2 = 4 then (ck (inb x1 10) (some (M.1 4 x1.toNatClampNeg))) else (some (-2 : Int32))))
set_option maxRecDepth 100000 in
set_option maxHeartbeats 4000000 in
theorem c_X8_lineOf {l : Launch} {D : va_G} {ac : Nat → ClassId} {A : Nat → Prop} {ad : Nat → Nat} {rest : va_W} (N : Nat) (x1 : Int32) (x2 : Int32)  (M : Mem) (r0 : Int32) (hf : f_X8_lineOf N x1 x2 M = some r0) : CtI l D ac A tabM ad rest yX8_lineOf cX8_lineOf 3 .int 3 [.ref (ad 0), .int x1, .int x2] M r0 M := by
  refine ct_ofI (own := RX8) (by decide +kernel) rfl (Nat.le_of_ble_eq_true rfl) ?_
  intro p e s m args below meth c C
  unfold f_X8_lineOf at hf
  refine a_L (L' := [(0, .ref (ad 0)), (1, .int x1), (2, .int x2)]) rfl ?_
  refine a_aload_n (pc := 0) C dX8_lineOf_0 0 rfl ?_
  refine a_iload_n (pc := 1) C dX8_lineOf_1 1 rfl ?_
  refine a_callV_Ir (pc := 2) (d' := 2) C dX8_lineOf_2 ml_X8_134 mc_X8_isLine mv_X8_isLine tm_0 rfl [.int x1] rfl (Nat.le_of_ble_eq_true rfl) (Nat.le_of_ble_eq_true rfl) rfl (Nat.le_of_ble_eq_true rfl) (fun r h => c_X8_isLine N x1  _  r h) hf (fun v1 hf => ?_)
  refine a_if_ne (pc := 5) 11 C dX8_lineOf_5 (by decide) hf (fun hf => ?_) (fun hf => ?_)
  · refine a_iload_n (pc := 11) C dX8_lineOf_11 2 rfl ?_
    by_cases hs3 : x2 = 0
    · rw [if_pos hs3] at hf
      refine a_tabIn (pc := 12) (off := 36) 48 C dX8_lineOf_12 (by rw [hs3]; decide) (by rw [hs3]; decide) (by rw [hs3]; rfl) (by decide) ?_
      refine a_aload_n (pc := 48) C dX8_lineOf_48 0 rfl ?_
      refine a_getR (pc := 49) C dX8_lineOf_49 fl_X8_13 tm_0 rfl ?_
      refine a_iload_n (pc := 52) C dX8_lineOf_52 1 rfl ?_
      refine a_iald (pc := 53) C dX8_lineOf_53 tm_1 hf (fun hf => ?_)
      exact a_iret (pc := 54) C dX8_lineOf_54 (Option.some.inj hf) rfl
    · rw [if_neg hs3] at hf
      by_cases hs4 : x2 = 1
      · rw [if_pos hs4] at hf
        refine a_tabIn (pc := 12) (off := 43) 55 C dX8_lineOf_12 (by rw [hs4]; decide) (by rw [hs4]; decide) (by rw [hs4]; rfl) (by decide) ?_
        refine a_aload_n (pc := 55) C dX8_lineOf_55 0 rfl ?_
        refine a_getR (pc := 56) C dX8_lineOf_56 fl_X8_17 tm_0 rfl ?_
        refine a_iload_n (pc := 59) C dX8_lineOf_59 1 rfl ?_
        refine a_iald (pc := 60) C dX8_lineOf_60 tm_2 hf (fun hf => ?_)
        exact a_iret (pc := 61) C dX8_lineOf_61 (Option.some.inj hf) rfl
      · rw [if_neg hs4] at hf
        by_cases hs5 : x2 = 2
        · rw [if_pos hs5] at hf
          refine a_tabIn (pc := 12) (off := 50) 62 C dX8_lineOf_12 (by rw [hs5]; decide) (by rw [hs5]; decide) (by rw [hs5]; rfl) (by decide) ?_
          refine a_aload_n (pc := 62) C dX8_lineOf_62 0 rfl ?_
          refine a_iload_n (pc := 63) C dX8_lineOf_63 1 rfl ?_
          refine a_callV_Ir (pc := 64) (d' := 2) C dX8_lineOf_64 ml_X8_137 mc_X8_gap mv_X8_gap tm_0 rfl [.int x1] rfl (Nat.le_of_ble_eq_true rfl) (Nat.le_of_ble_eq_true rfl) rfl (Nat.le_of_ble_eq_true rfl) (fun r h => c_X8_gap N x1  _  r h) hf (fun v6 hf => ?_)
          exact a_iret (pc := 67) C dX8_lineOf_67 (Option.some.inj hf) rfl
        · rw [if_neg hs5] at hf
          by_cases hs8 : x2 = 3
          · rw [if_pos hs8] at hf
            refine a_tabIn (pc := 12) (off := 56) 68 C dX8_lineOf_12 (by rw [hs8]; decide) (by rw [hs8]; decide) (by rw [hs8]; rfl) (by decide) ?_
            refine a_aload_n (pc := 68) C dX8_lineOf_68 0 rfl ?_
            refine a_getR (pc := 69) C dX8_lineOf_69 fl_X8_20 tm_0 rfl ?_
            refine a_iload_n (pc := 72) C dX8_lineOf_72 1 rfl ?_
            refine a_iald (pc := 73) C dX8_lineOf_73 tm_3 hf (fun hf => ?_)
            exact a_iret (pc := 74) C dX8_lineOf_74 (Option.some.inj hf) rfl
          · rw [if_neg hs8] at hf
            by_cases hs9 : x2 = 4
            · rw [if_pos hs9] at hf
              refine a_tabIn (pc := 12) (off := 63) 75 C dX8_lineOf_12 (by rw [hs9]; decide) (by rw [hs9]; decide) (by rw [hs9]; rfl) (by decide) ?_
              refine a_aload_n (pc := 75) C dX8_lineOf_75 0 rfl ?_
              refine a_getR (pc := 76) C dX8_lineOf_76 fl_X8_23 tm_0 rfl ?_
              refine a_iload_n (pc := 79) C dX8_lineOf_79 1 rfl ?_
              refine a_iald (pc := 80) C dX8_lineOf_80 tm_4 hf (fun hf => ?_)
              exact a_iret (pc := 81) C dX8_lineOf_81 (Option.some.inj hf) rfl
            · rw [if_neg hs9] at hf
              refine a_tabOut (pc := 12) 82 C dX8_lineOf_12 (by have nhs3 := ne_toInt hs3 (k := 0) (by decide); have nhs4 := ne_toInt hs4 (k := 1) (by decide); have nhs5 := ne_toInt hs5 (k := 2) (by decide); have nhs8 := ne_toInt hs8 (k := 3) (by decide); have nhs9 := ne_toInt hs9 (k := 4) (by decide); omega) (by decide) ?_
              refine a_bipush (pc := 82) (v := (-2)) C dX8_lineOf_82 (by decide) ?_
              exact a_iret (pc := 84) C dX8_lineOf_84 (Option.some.inj hf) rfl
  · refine a_bipush (pc := 8) (v := (-2)) C dX8_lineOf_8 (by decide) ?_
    exact a_iret (pc := 10) C dX8_lineOf_10 (Option.some.inj hf) rfl
theorem dX8_change_0 : decode cX8_change 0 = .ok (.aload_n 0, 1) := by decide +kernel
theorem dX8_change_1 : decode cX8_change 1 = .ok (.iload_n 1, 1) := by decide +kernel
theorem dX8_change_2 : decode cX8_change 2 = .ok (.invokevirtual 134, 3) := by decide +kernel
theorem dX8_change_5 : decode cX8_change 5 = .ok (.ifCond .eq 36, 3) := by decide +kernel
theorem dX8_change_8 : decode cX8_change 8 = .ok (.iload_n 2, 1) := by decide +kernel
theorem dX8_change_9 : decode cX8_change 9 = .ok (.i2l, 1) := by decide +kernel
theorem dX8_change_10 : decode cX8_change 10 = .ok (.lconst 0, 1) := by decide +kernel
theorem dX8_change_11 : decode cX8_change 11 = .ok (.lconst 1, 1) := by decide +kernel
theorem dX8_change_12 : decode cX8_change 12 = .ok (.invokestatic 98, 3) := by decide +kernel
theorem dX8_change_15 : decode cX8_change 15 = .ok (.ifCond .eq 26, 3) := by decide +kernel
theorem dX8_change_18 : decode cX8_change 18 = .ok (.iload_n 3, 1) := by decide +kernel
theorem dX8_change_19 : decode cX8_change 19 = .ok (.i2l, 1) := by decide +kernel
theorem dX8_change_20 : decode cX8_change 20 = .ok (.iload_n 2, 1) := by decide +kernel
theorem dX8_change_21 : decode cX8_change 21 = .ok (.i2l, 1) := by decide +kernel
theorem dX8_change_22 : decode cX8_change 22 = .ok (.iload_n 2, 1) := by decide +kernel
theorem dX8_change_23 : decode cX8_change 23 = .ok (.ifCond .ne 9, 3) := by decide +kernel
theorem dX8_change_26 : decode cX8_change 26 = .ok (.ldc2_w 118, 3) := by decide +kernel
theorem dX8_change_29 : decode cX8_change 29 = .ok (.goto 6, 3) := by decide +kernel
theorem dX8_change_32 : decode cX8_change 32 = .ok (.ldc2_w 120, 3) := by decide +kernel
theorem dX8_change_35 : decode cX8_change 35 = .ok (.invokestatic 98, 3) := by decide +kernel
theorem dX8_change_38 : decode cX8_change 38 = .ok (.ifCond .ne 6, 3) := by decide +kernel
theorem dX8_change_41 : decode cX8_change 41 = .ok (.bipush (-2), 2) := by decide +kernel
theorem dX8_change_43 : decode cX8_change 43 = .ok (.ireturn, 1) := by decide +kernel
theorem dX8_change_44 : decode cX8_change 44 = .ok (.iload_n 2, 1) := by decide +kernel
theorem dX8_change_45 : decode cX8_change 45 = .ok (.ifCond .ne 12, 3) := by decide +kernel
theorem dX8_change_48 : decode cX8_change 48 = .ok (.aload_n 0, 1) := by decide +kernel
theorem dX8_change_49 : decode cX8_change 49 = .ok (.getfield 13, 3) := by decide +kernel
theorem dX8_change_52 : decode cX8_change 52 = .ok (.iload_n 1, 1) := by decide +kernel
theorem dX8_change_53 : decode cX8_change 53 = .ok (.iaload, 1) := by decide +kernel
theorem dX8_change_54 : decode cX8_change 54 = .ok (.goto 9, 3) := by decide +kernel
theorem dX8_change_57 : decode cX8_change 57 = .ok (.aload_n 0, 1) := by decide +kernel
theorem dX8_change_58 : decode cX8_change 58 = .ok (.getfield 17, 3) := by decide +kernel
theorem dX8_change_61 : decode cX8_change 61 = .ok (.iload_n 1, 1) := by decide +kernel
theorem dX8_change_62 : decode cX8_change 62 = .ok (.iaload, 1) := by decide +kernel
theorem dX8_change_63 : decode cX8_change 63 = .ok (.istore 4, 2) := by decide +kernel
theorem dX8_change_65 : decode cX8_change 65 = .ok (.iload_n 2, 1) := by decide +kernel
theorem dX8_change_66 : decode cX8_change 66 = .ok (.ifCond .ne 13, 3) := by decide +kernel
theorem dX8_change_69 : decode cX8_change 69 = .ok (.aload_n 0, 1) := by decide +kernel
theorem dX8_change_70 : decode cX8_change 70 = .ok (.getfield 13, 3) := by decide +kernel
theorem dX8_change_73 : decode cX8_change 73 = .ok (.iload_n 1, 1) := by decide +kernel
theorem dX8_change_74 : decode cX8_change 74 = .ok (.iload_n 3, 1) := by decide +kernel
theorem dX8_change_75 : decode cX8_change 75 = .ok (.iastore, 1) := by decide +kernel
theorem dX8_change_76 : decode cX8_change 76 = .ok (.goto 10, 3) := by decide +kernel
theorem dX8_change_79 : decode cX8_change 79 = .ok (.aload_n 0, 1) := by decide +kernel
theorem dX8_change_80 : decode cX8_change 80 = .ok (.getfield 17, 3) := by decide +kernel
theorem dX8_change_83 : decode cX8_change 83 = .ok (.iload_n 1, 1) := by decide +kernel
theorem dX8_change_84 : decode cX8_change 84 = .ok (.iload_n 3, 1) := by decide +kernel
theorem dX8_change_85 : decode cX8_change 85 = .ok (.iastore, 1) := by decide +kernel
theorem dX8_change_86 : decode cX8_change 86 = .ok (.iload 4, 2) := by decide +kernel
theorem dX8_change_88 : decode cX8_change 88 = .ok (.ireturn, 1) := by decide +kernel
def f_X8_change (N : Nat) (x1 : Int32) (x2 : Int32) (x3 : Int32) (M : Mem) : Option (Int32 × Mem) := bd (f_X8_isLine N x1 M) (fun v1 => if v1 = 0 then (some ((-2 : Int32), M)) else (bd (f_X8_in N x2.toInt64 (0 : Int64) (1 : Int64) M) (fun v3 => if v3 = 0 then (some ((-2 : Int32), M)) else (jn (fun (a35 : Int64) => bd (f_X8_in N x3.toInt64 x2.toInt64 a35 M) (fun v5 => if v5 = 0 then (some ((-2 : Int32), M)) else (jn (fun (a63 : Int32) => if x2 = 0 then (ck (inb x1 10) (nm (setI M 1 x1.toNatClampNeg x3) (fun M8 => some (a63, M8)))) else (ck (inb x1 10) (nm (setI M 2 x1.toNatClampNeg x3) (fun M7 => some (a63, M7))))) (fun (k63 : Int32 → Option (Int32 × Mem)) => if x2 = 0 then (ck (inb x1 10) (k63 (M.1 1 x1.toNatClampNeg))) else (ck (inb x1 10) (k63 (M.1 2 x1.toNatClampNeg))))))) (fun (k35 : Int64 → Option (Int32 × Mem)) => if x2 = 0 then (k35 (4 : Int64)) else (k35 (3 : Int64)))))))
set_option maxRecDepth 100000 in
set_option maxHeartbeats 4000000 in
theorem c_X8_change {l : Launch} {D : va_G} {ac : Nat → ClassId} {A : Nat → Prop} {ad : Nat → Nat} {rest : va_W} (N : Nat) (x1 : Int32) (x2 : Int32) (x3 : Int32)  (M : Mem) (r0 : Int32) (M0 : Mem) (hf : f_X8_change N x1 x2 x3 M = some (r0, M0)) : CtI l D ac A tabM ad rest yX8_change cX8_change 5 .int 3 [.ref (ad 0), .int x1, .int x2, .int x3] M r0 M0 := by
  refine ct_ofI (own := RX8) (by decide +kernel) rfl (Nat.le_of_ble_eq_true rfl) ?_
  intro p e s m args below meth c C
  unfold f_X8_change at hf
  refine a_L (L' := [(0, .ref (ad 0)), (1, .int x1), (2, .int x2), (3, .int x3)]) rfl ?_
  refine a_aload_n (pc := 0) C dX8_change_0 0 rfl ?_
  refine a_iload_n (pc := 1) C dX8_change_1 1 rfl ?_
  refine a_callV_Ir (pc := 2) (d' := 2) C dX8_change_2 ml_X8_134 mc_X8_isLine mv_X8_isLine tm_0 rfl [.int x1] rfl (Nat.le_of_ble_eq_true rfl) (Nat.le_of_ble_eq_true rfl) rfl (Nat.le_of_ble_eq_true rfl) (fun r h => c_X8_isLine N x1  _  r h) hf (fun v1 hf => ?_)
  refine a_if_eq (pc := 5) 41 C dX8_change_5 (by decide) hf (fun hf => ?_) (fun hf => ?_)
  · refine a_bipush (pc := 41) (v := (-2)) C dX8_change_41 (by decide) ?_
    exact a_iret (pc := 43) C dX8_change_43 (so_1 hf) (so_2 hf)
  · refine a_iload_n (pc := 8) C dX8_change_8 2 rfl ?_
    refine a_i2l (pc := 9) C dX8_change_9 ?_
    refine a_lconst (pc := 10) (v := 0) C dX8_change_10 (by decide) ?_
    refine a_lconst (pc := 11) (v := 1) C dX8_change_11 (by decide) ?_
    refine a_callS_Ir (pc := 12) (d' := 1) C dX8_change_12 ml_X8_98 mc_X8_in ms_X8_in [.long x2.toInt64, .long (0 : Int64), .long (1 : Int64)] rfl (Nat.le_of_ble_eq_true rfl) (Nat.le_of_ble_eq_true rfl) rfl (Nat.le_of_ble_eq_true rfl) (fun r h => c_X8_in N x2.toInt64 (0 : Int64) (1 : Int64)  _  r h) hf (fun v3 hf => ?_)
    refine a_if_eq (pc := 15) 41 C dX8_change_15 (by decide) hf (fun hf => ?_) (fun hf => ?_)
    · refine a_bipush (pc := 41) (v := (-2)) C dX8_change_41 (by decide) ?_
      exact a_iret (pc := 43) C dX8_change_43 (so_1 hf) (so_2 hf)
    · refine a_iload_n (pc := 18) C dX8_change_18 3 rfl ?_
      refine a_i2l (pc := 19) C dX8_change_19 ?_
      refine a_iload_n (pc := 20) C dX8_change_20 2 rfl ?_
      refine a_i2l (pc := 21) C dX8_change_21 ?_
      refine a_iload_n (pc := 22) C dX8_change_22 2 rfl ?_
      refine a_jn 35 (fun a35 : Int64 => [(0, .ref (ad 0)), (1, .int x1), (2, .int x2), (3, .int x3)]) (fun a35 : Int64 => [.long a35, .long x2.toInt64, .long x3.toInt64]) (fun a35 : Int64 => M) hf (fun a35 hf => ?_) (fun k35 hk35 hf => ?_)
      · refine a_callS_Ir (pc := 35) (d' := 1) C dX8_change_35 ml_X8_98 mc_X8_in ms_X8_in [.long x3.toInt64, .long x2.toInt64, .long a35] rfl (Nat.le_of_ble_eq_true rfl) (Nat.le_of_ble_eq_true rfl) rfl (Nat.le_of_ble_eq_true rfl) (fun r h => c_X8_in N x3.toInt64 x2.toInt64 a35  _  r h) hf (fun v5 hf => ?_)
        refine a_if_ne (pc := 38) 44 C dX8_change_38 (by decide) hf (fun hf => ?_) (fun hf => ?_)
        · refine a_iload_n (pc := 44) C dX8_change_44 2 rfl ?_
          refine a_jn 63 (fun a63 : Int32 => [(0, .ref (ad 0)), (1, .int x1), (2, .int x2), (3, .int x3)]) (fun a63 : Int32 => [.int a63]) (fun a63 : Int32 => M) hf (fun a63 hf => ?_) (fun k63 hk63 hf => ?_)
          · refine a_istore (pc := 63) [(4, .int a63), (0, .ref (ad 0)), (1, .int x1), (2, .int x2), (3, .int x3)] C dX8_change_63 (by decide) rfl ?_
            refine a_iload_n (pc := 65) C dX8_change_65 3 rfl ?_
            refine a_if_ne (pc := 66) 79 C dX8_change_66 (by decide) hf (fun hf => ?_) (fun hf => ?_)
            · refine a_aload_n (pc := 79) C dX8_change_79 1 rfl ?_
              refine a_getR (pc := 80) C dX8_change_80 fl_X8_17 tm_0 rfl ?_
              refine a_iload_n (pc := 83) C dX8_change_83 2 rfl ?_
              refine a_iload_n (pc := 84) C dX8_change_84 4 rfl ?_
              refine a_iast (pc := 85) C dX8_change_85 tm_2 hf (fun M7 hf => ?_)
              refine a_iload (pc := 86) C dX8_change_86 0 rfl ?_
              exact a_iret (pc := 88) C dX8_change_88 (so_1 hf) (so_2 hf)
            · refine a_aload_n (pc := 69) C dX8_change_69 1 rfl ?_
              refine a_getR (pc := 70) C dX8_change_70 fl_X8_13 tm_0 rfl ?_
              refine a_iload_n (pc := 73) C dX8_change_73 2 rfl ?_
              refine a_iload_n (pc := 74) C dX8_change_74 4 rfl ?_
              refine a_iast (pc := 75) C dX8_change_75 tm_1 hf (fun M8 hf => ?_)
              refine a_goto (pc := 76) 86 C dX8_change_76 (by decide) ?_
              refine a_iload (pc := 86) C dX8_change_86 0 rfl ?_
              exact a_iret (pc := 88) C dX8_change_88 (so_1 hf) (so_2 hf)
          · refine a_if_ne (pc := 45) 57 C dX8_change_45 (by decide) hf (fun hf => ?_) (fun hf => ?_)
            · refine a_aload_n (pc := 57) C dX8_change_57 0 rfl ?_
              refine a_getR (pc := 58) C dX8_change_58 fl_X8_17 tm_0 rfl ?_
              refine a_iload_n (pc := 61) C dX8_change_61 1 rfl ?_
              refine a_iald (pc := 62) C dX8_change_62 tm_2 hf (fun hf => ?_)
              exact a_sub [0, 1, 2, 3] rfl (hk63 (M.1 2 x1.toNatClampNeg) hf)
            · refine a_aload_n (pc := 48) C dX8_change_48 0 rfl ?_
              refine a_getR (pc := 49) C dX8_change_49 fl_X8_13 tm_0 rfl ?_
              refine a_iload_n (pc := 52) C dX8_change_52 1 rfl ?_
              refine a_iald (pc := 53) C dX8_change_53 tm_1 hf (fun hf => ?_)
              refine a_goto (pc := 54) 63 C dX8_change_54 (by decide) ?_
              exact a_sub [0, 1, 2, 3] rfl (hk63 (M.1 1 x1.toNatClampNeg) hf)
        · refine a_bipush (pc := 41) (v := (-2)) C dX8_change_41 (by decide) ?_
          exact a_iret (pc := 43) C dX8_change_43 (so_1 hf) (so_2 hf)
      · refine a_if_ne (pc := 23) 32 C dX8_change_23 (by decide) hf (fun hf => ?_) (fun hf => ?_)
        · refine a_ldc2 (pc := 32) C dX8_change_32 cj_X8_120 ?_
          exact a_sub [0, 1, 2, 3] rfl (hk35 (3 : Int64) hf)
        · refine a_ldc2 (pc := 26) C dX8_change_26 cj_X8_118 ?_
          refine a_goto (pc := 29) 35 C dX8_change_29 (by decide) ?_
          exact a_sub [0, 1, 2, 3] rfl (hk35 (4 : Int64) hf)
theorem dX8_drop_0 : decode cX8_drop 0 = .ok (.aload_n 0, 1) := by decide +kernel
theorem dX8_drop_1 : decode cX8_drop 1 = .ok (.iload_n 1, 1) := by decide +kernel
theorem dX8_drop_2 : decode cX8_drop 2 = .ok (.invokevirtual 134, 3) := by decide +kernel
theorem dX8_drop_5 : decode cX8_drop 5 = .ok (.ifCond .ne 6, 3) := by decide +kernel
theorem dX8_drop_8 : decode cX8_drop 8 = .ok (.bipush (-2), 2) := by decide +kernel
theorem dX8_drop_10 : decode cX8_drop 10 = .ok (.ireturn, 1) := by decide +kernel
theorem dX8_drop_11 : decode cX8_drop 11 = .ok (.aload_n 0, 1) := by decide +kernel
theorem dX8_drop_12 : decode cX8_drop 12 = .ok (.dup, 1) := by decide +kernel
theorem dX8_drop_13 : decode cX8_drop 13 = .ok (.getfield 102, 3) := by decide +kernel
theorem dX8_drop_16 : decode cX8_drop 16 = .ok (.iconst 1, 1) := by decide +kernel
theorem dX8_drop_17 : decode cX8_drop 17 = .ok (.isub, 1) := by decide +kernel
theorem dX8_drop_18 : decode cX8_drop 18 = .ok (.putfield 102, 3) := by decide +kernel
theorem dX8_drop_21 : decode cX8_drop 21 = .ok (.iload_n 1, 1) := by decide +kernel
theorem dX8_drop_22 : decode cX8_drop 22 = .ok (.istore_n 2, 1) := by decide +kernel
theorem dX8_drop_23 : decode cX8_drop 23 = .ok (.iload_n 2, 1) := by decide +kernel
theorem dX8_drop_24 : decode cX8_drop 24 = .ok (.aload_n 0, 1) := by decide +kernel
theorem dX8_drop_25 : decode cX8_drop 25 = .ok (.getfield 102, 3) := by decide +kernel
theorem dX8_drop_28 : decode cX8_drop 28 = .ok (.if_icmp .ge 65, 3) := by decide +kernel
theorem dX8_drop_31 : decode cX8_drop 31 = .ok (.aload_n 0, 1) := by decide +kernel
theorem dX8_drop_32 : decode cX8_drop 32 = .ok (.getfield 13, 3) := by decide +kernel
theorem dX8_drop_35 : decode cX8_drop 35 = .ok (.iload_n 2, 1) := by decide +kernel
theorem dX8_drop_36 : decode cX8_drop 36 = .ok (.aload_n 0, 1) := by decide +kernel
theorem dX8_drop_37 : decode cX8_drop 37 = .ok (.getfield 13, 3) := by decide +kernel
theorem dX8_drop_40 : decode cX8_drop 40 = .ok (.iload_n 2, 1) := by decide +kernel
theorem dX8_drop_41 : decode cX8_drop 41 = .ok (.iconst 1, 1) := by decide +kernel
theorem dX8_drop_42 : decode cX8_drop 42 = .ok (.iadd, 1) := by decide +kernel
theorem dX8_drop_43 : decode cX8_drop 43 = .ok (.iaload, 1) := by decide +kernel
theorem dX8_drop_44 : decode cX8_drop 44 = .ok (.iastore, 1) := by decide +kernel
theorem dX8_drop_45 : decode cX8_drop 45 = .ok (.aload_n 0, 1) := by decide +kernel
theorem dX8_drop_46 : decode cX8_drop 46 = .ok (.getfield 17, 3) := by decide +kernel
theorem dX8_drop_49 : decode cX8_drop 49 = .ok (.iload_n 2, 1) := by decide +kernel
theorem dX8_drop_50 : decode cX8_drop 50 = .ok (.aload_n 0, 1) := by decide +kernel
theorem dX8_drop_51 : decode cX8_drop 51 = .ok (.getfield 17, 3) := by decide +kernel
theorem dX8_drop_54 : decode cX8_drop 54 = .ok (.iload_n 2, 1) := by decide +kernel
theorem dX8_drop_55 : decode cX8_drop 55 = .ok (.iconst 1, 1) := by decide +kernel
theorem dX8_drop_56 : decode cX8_drop 56 = .ok (.iadd, 1) := by decide +kernel
theorem dX8_drop_57 : decode cX8_drop 57 = .ok (.iaload, 1) := by decide +kernel
theorem dX8_drop_58 : decode cX8_drop 58 = .ok (.iastore, 1) := by decide +kernel
theorem dX8_drop_59 : decode cX8_drop 59 = .ok (.aload_n 0, 1) := by decide +kernel
theorem dX8_drop_60 : decode cX8_drop 60 = .ok (.getfield 20, 3) := by decide +kernel
theorem dX8_drop_63 : decode cX8_drop 63 = .ok (.iload_n 2, 1) := by decide +kernel
theorem dX8_drop_64 : decode cX8_drop 64 = .ok (.aload_n 0, 1) := by decide +kernel
theorem dX8_drop_65 : decode cX8_drop 65 = .ok (.getfield 20, 3) := by decide +kernel
theorem dX8_drop_68 : decode cX8_drop 68 = .ok (.iload_n 2, 1) := by decide +kernel
theorem dX8_drop_69 : decode cX8_drop 69 = .ok (.iconst 1, 1) := by decide +kernel
theorem dX8_drop_70 : decode cX8_drop 70 = .ok (.iadd, 1) := by decide +kernel
theorem dX8_drop_71 : decode cX8_drop 71 = .ok (.iaload, 1) := by decide +kernel
theorem dX8_drop_72 : decode cX8_drop 72 = .ok (.iastore, 1) := by decide +kernel
theorem dX8_drop_73 : decode cX8_drop 73 = .ok (.aload_n 0, 1) := by decide +kernel
theorem dX8_drop_74 : decode cX8_drop 74 = .ok (.getfield 23, 3) := by decide +kernel
theorem dX8_drop_77 : decode cX8_drop 77 = .ok (.iload_n 2, 1) := by decide +kernel
theorem dX8_drop_78 : decode cX8_drop 78 = .ok (.aload_n 0, 1) := by decide +kernel
theorem dX8_drop_79 : decode cX8_drop 79 = .ok (.getfield 23, 3) := by decide +kernel
theorem dX8_drop_82 : decode cX8_drop 82 = .ok (.iload_n 2, 1) := by decide +kernel
theorem dX8_drop_83 : decode cX8_drop 83 = .ok (.iconst 1, 1) := by decide +kernel
theorem dX8_drop_84 : decode cX8_drop 84 = .ok (.iadd, 1) := by decide +kernel
theorem dX8_drop_85 : decode cX8_drop 85 = .ok (.iaload, 1) := by decide +kernel
theorem dX8_drop_86 : decode cX8_drop 86 = .ok (.iastore, 1) := by decide +kernel
theorem dX8_drop_87 : decode cX8_drop 87 = .ok (.iinc 2 1, 3) := by decide +kernel
theorem dX8_drop_90 : decode cX8_drop 90 = .ok (.goto (-67), 3) := by decide +kernel
theorem dX8_drop_93 : decode cX8_drop 93 = .ok (.aload_n 0, 1) := by decide +kernel
theorem dX8_drop_94 : decode cX8_drop 94 = .ok (.getfield 102, 3) := by decide +kernel
theorem dX8_drop_97 : decode cX8_drop 97 = .ok (.ireturn, 1) := by decide +kernel
def f_X8_drop (N : Nat) (x1 : Int32) (M : Mem) : Option (Int32 × Mem) := bd (f_X8_isLine N x1 M) (fun v1 => if v1 = 0 then (some ((-2 : Int32), M)) else (nm (setI M 0 1 ((M.1 0 1) - (1 : Int32))) (fun M3 => lp (fun (k23 : (Int32 × Mem) → Option (Int32 × Mem)) (a23 : Int32 × Mem) => if (a23.2.1 0 1) ≤ a23.1 then (some ((a23.2.1 0 1), a23.2)) else (ck (inb (a23.1 + (1 : Int32)) 10) (ck (inb a23.1 10) (nm (setI a23.2 1 a23.1.toNatClampNeg (a23.2.1 1 (a23.1 + (1 : Int32)).toNatClampNeg)) (fun M4 => ck (inb (a23.1 + (1 : Int32)) 10) (ck (inb a23.1 10) (nm (setI M4 2 a23.1.toNatClampNeg (M4.1 2 (a23.1 + (1 : Int32)).toNatClampNeg)) (fun M5 => ck (inb (a23.1 + (1 : Int32)) 10) (ck (inb a23.1 10) (nm (setI M5 3 a23.1.toNatClampNeg (M5.1 3 (a23.1 + (1 : Int32)).toNatClampNeg)) (fun M6 => ck (inb (a23.1 + (1 : Int32)) 10) (ck (inb a23.1 10) (nm (setI M6 4 a23.1.toNatClampNeg (M6.1 4 (a23.1 + (1 : Int32)).toNatClampNeg)) (fun M7 => nm (a23.1 + (1 : Int32)) (fun v8 => k23 (v8, M7)))))))))))))))) N (x1, M3))))
set_option maxRecDepth 100000 in
set_option maxHeartbeats 4000000 in
theorem c_X8_drop {l : Launch} {D : va_G} {ac : Nat → ClassId} {A : Nat → Prop} {ad : Nat → Nat} {rest : va_W} (N : Nat) (x1 : Int32)  (M : Mem) (r0 : Int32) (M0 : Mem) (hf : f_X8_drop N x1 M = some (r0, M0)) : CtI l D ac A tabM ad rest yX8_drop cX8_drop 3 .int 3 [.ref (ad 0), .int x1] M r0 M0 := by
  refine ct_ofI (own := RX8) (by decide +kernel) rfl (Nat.le_of_ble_eq_true rfl) ?_
  intro p e s m args below meth c C
  unfold f_X8_drop at hf
  refine a_L (L' := [(0, .ref (ad 0)), (1, .int x1)]) rfl ?_
  refine a_aload_n (pc := 0) C dX8_drop_0 0 rfl ?_
  refine a_iload_n (pc := 1) C dX8_drop_1 1 rfl ?_
  refine a_callV_Ir (pc := 2) (d' := 2) C dX8_drop_2 ml_X8_134 mc_X8_isLine mv_X8_isLine tm_0 rfl [.int x1] rfl (Nat.le_of_ble_eq_true rfl) (Nat.le_of_ble_eq_true rfl) rfl (Nat.le_of_ble_eq_true rfl) (fun r h => c_X8_isLine N x1  _  r h) hf (fun v1 hf => ?_)
  refine a_if_ne (pc := 5) 11 C dX8_drop_5 (by decide) hf (fun hf => ?_) (fun hf => ?_)
  · refine a_aload_n (pc := 11) C dX8_drop_11 0 rfl ?_
    refine a_dup (pc := 12) C dX8_drop_12 rfl ?_
    refine a_getI (pc := 13) C dX8_drop_13 fl_X8_102 tm_0 rfl ?_
    refine a_iconst (pc := 16) (v := 1) C dX8_drop_16 (by decide) ?_
    refine a_isub (pc := 17) C dX8_drop_17 ?_
    refine a_putI (pc := 18) C dX8_drop_18 fl_X8_102 tm_0 rfl hf (fun M3 hf => ?_)
    refine a_iload_n (pc := 21) C dX8_drop_21 1 rfl ?_
    refine a_istore_n (pc := 22) [(2, .int x1), (0, .ref (ad 0)), (1, .int x1)] C dX8_drop_22 (by decide) rfl ?_
    refine a_sub [1, 0] rfl ?_
    refine a_lp 23 (fun a23 : Int32 × Mem => [(0, .ref (ad 0)), (2, .int a23.1)]) (fun a23 : Int32 × Mem => []) (fun a23 : Int32 × Mem => a23.2) (fun k23 a23 hk23 hf => ?_) N (x1, M3) hf
    refine a_iload_n (pc := 23) C dX8_drop_23 1 rfl ?_
    refine a_aload_n (pc := 24) C dX8_drop_24 0 rfl ?_
    refine a_getI (pc := 25) C dX8_drop_25 fl_X8_102 tm_0 rfl ?_
    refine a_icmp_ge (pc := 28) 93 C dX8_drop_28 (by decide) hf (fun hf => ?_) (fun hf => ?_)
    · refine a_aload_n (pc := 93) C dX8_drop_93 0 rfl ?_
      refine a_getI (pc := 94) C dX8_drop_94 fl_X8_102 tm_0 rfl ?_
      exact a_iret (pc := 97) C dX8_drop_97 (so_1 hf) (so_2 hf)
    · refine a_aload_n (pc := 31) C dX8_drop_31 0 rfl ?_
      refine a_getR (pc := 32) C dX8_drop_32 fl_X8_13 tm_0 rfl ?_
      refine a_iload_n (pc := 35) C dX8_drop_35 1 rfl ?_
      refine a_aload_n (pc := 36) C dX8_drop_36 0 rfl ?_
      refine a_getR (pc := 37) C dX8_drop_37 fl_X8_13 tm_0 rfl ?_
      refine a_iload_n (pc := 40) C dX8_drop_40 1 rfl ?_
      refine a_iconst (pc := 41) (v := 1) C dX8_drop_41 (by decide) ?_
      refine a_iadd (pc := 42) C dX8_drop_42 ?_
      refine a_iald (pc := 43) C dX8_drop_43 tm_1 hf (fun hf => ?_)
      refine a_iast (pc := 44) C dX8_drop_44 tm_1 hf (fun M4 hf => ?_)
      refine a_aload_n (pc := 45) C dX8_drop_45 0 rfl ?_
      refine a_getR (pc := 46) C dX8_drop_46 fl_X8_17 tm_0 rfl ?_
      refine a_iload_n (pc := 49) C dX8_drop_49 1 rfl ?_
      refine a_aload_n (pc := 50) C dX8_drop_50 0 rfl ?_
      refine a_getR (pc := 51) C dX8_drop_51 fl_X8_17 tm_0 rfl ?_
      refine a_iload_n (pc := 54) C dX8_drop_54 1 rfl ?_
      refine a_iconst (pc := 55) (v := 1) C dX8_drop_55 (by decide) ?_
      refine a_iadd (pc := 56) C dX8_drop_56 ?_
      refine a_iald (pc := 57) C dX8_drop_57 tm_2 hf (fun hf => ?_)
      refine a_iast (pc := 58) C dX8_drop_58 tm_2 hf (fun M5 hf => ?_)
      refine a_aload_n (pc := 59) C dX8_drop_59 0 rfl ?_
      refine a_getR (pc := 60) C dX8_drop_60 fl_X8_20 tm_0 rfl ?_
      refine a_iload_n (pc := 63) C dX8_drop_63 1 rfl ?_
      refine a_aload_n (pc := 64) C dX8_drop_64 0 rfl ?_
      refine a_getR (pc := 65) C dX8_drop_65 fl_X8_20 tm_0 rfl ?_
      refine a_iload_n (pc := 68) C dX8_drop_68 1 rfl ?_
      refine a_iconst (pc := 69) (v := 1) C dX8_drop_69 (by decide) ?_
      refine a_iadd (pc := 70) C dX8_drop_70 ?_
      refine a_iald (pc := 71) C dX8_drop_71 tm_3 hf (fun hf => ?_)
      refine a_iast (pc := 72) C dX8_drop_72 tm_3 hf (fun M6 hf => ?_)
      refine a_aload_n (pc := 73) C dX8_drop_73 0 rfl ?_
      refine a_getR (pc := 74) C dX8_drop_74 fl_X8_23 tm_0 rfl ?_
      refine a_iload_n (pc := 77) C dX8_drop_77 1 rfl ?_
      refine a_aload_n (pc := 78) C dX8_drop_78 0 rfl ?_
      refine a_getR (pc := 79) C dX8_drop_79 fl_X8_23 tm_0 rfl ?_
      refine a_iload_n (pc := 82) C dX8_drop_82 1 rfl ?_
      refine a_iconst (pc := 83) (v := 1) C dX8_drop_83 (by decide) ?_
      refine a_iadd (pc := 84) C dX8_drop_84 ?_
      refine a_iald (pc := 85) C dX8_drop_85 tm_4 hf (fun hf => ?_)
      refine a_iast (pc := 86) C dX8_drop_86 tm_4 hf (fun M7 hf => ?_)
      refine a_iinc (pc := 87) (v := 1) (fun v8 => [(2, .int v8), (0, .ref (ad 0))]) C dX8_drop_87 1 rfl (by decide) (by decide) (fun _ => rfl) hf (fun v8 hf => ?_)
      refine a_goto (pc := 90) 23 C dX8_drop_90 (by decide) ?_
      exact a_sub [1, 0] rfl (hk23 (v8, M7) hf)
  · refine a_bipush (pc := 8) (v := (-2)) C dX8_drop_8 (by decide) ?_
    exact a_iret (pc := 10) C dX8_drop_10 (so_1 hf) (so_2 hf)
theorem dX8_list_0 : decode cX8_list 0 = .ok (.aload_n 0, 1) := by decide +kernel
theorem dX8_list_1 : decode cX8_list 1 = .ok (.iload_n 1, 1) := by decide +kernel
theorem dX8_list_2 : decode cX8_list 2 = .ok (.invokevirtual 122, 3) := by decide +kernel
theorem dX8_list_5 : decode cX8_list 5 = .ok (.ifCond .eq 13, 3) := by decide +kernel
theorem dX8_list_8 : decode cX8_list 8 = .ok (.lload_n 2, 1) := by decide +kernel
theorem dX8_list_9 : decode cX8_list 9 = .ok (.ldc2_w 141, 3) := by decide +kernel
theorem dX8_list_12 : decode cX8_list 12 = .ok (.land, 1) := by decide +kernel
theorem dX8_list_13 : decode cX8_list 13 = .ok (.lconst 0, 1) := by decide +kernel
theorem dX8_list_14 : decode cX8_list 14 = .ok (.lcmp, 1) := by decide +kernel
theorem dX8_list_15 : decode cX8_list 15 = .ok (.ifCond .eq 7, 3) := by decide +kernel
theorem dX8_list_18 : decode cX8_list 18 = .ok (.ldc2_w 143, 3) := by decide +kernel
theorem dX8_list_21 : decode cX8_list 21 = .ok (.lreturn, 1) := by decide +kernel
theorem dX8_list_22 : decode cX8_list 22 = .ok (.aload_n 0, 1) := by decide +kernel
theorem dX8_list_23 : decode cX8_list 23 = .ok (.getfield 28, 3) := by decide +kernel
theorem dX8_list_26 : decode cX8_list 26 = .ok (.iload_n 1, 1) := by decide +kernel
theorem dX8_list_27 : decode cX8_list 27 = .ok (.laload, 1) := by decide +kernel
theorem dX8_list_28 : decode cX8_list 28 = .ok (.lstore 4, 2) := by decide +kernel
theorem dX8_list_30 : decode cX8_list 30 = .ok (.aload_n 0, 1) := by decide +kernel
theorem dX8_list_31 : decode cX8_list 31 = .ok (.getfield 28, 3) := by decide +kernel
theorem dX8_list_34 : decode cX8_list 34 = .ok (.iload_n 1, 1) := by decide +kernel
theorem dX8_list_35 : decode cX8_list 35 = .ok (.lload_n 2, 1) := by decide +kernel
theorem dX8_list_36 : decode cX8_list 36 = .ok (.lastore, 1) := by decide +kernel
theorem dX8_list_37 : decode cX8_list 37 = .ok (.lload 4, 2) := by decide +kernel
theorem dX8_list_39 : decode cX8_list 39 = .ok (.lreturn, 1) := by decide +kernel
def f_X8_list (N : Nat) (x1 : Int32) (x2 : Int64) (M : Mem) : Option (Int64 × Mem) := bd (f_X8_isPoint N x1 M) (fun v1 => if v1 = 0 then (some ((-4611686018427387906 : Int64), M)) else (if (lg_cmp (x2 &&& (-1099511627776 : Int64)) (0 : Int64)) = 0 then (ck (inb x1 6) (nm (M.2 5 x1.toNatClampNeg) (fun v3 => ck (inb x1 6) (nm (setJ M 5 x1.toNatClampNeg x2) (fun M4 => some (v3, M4)))))) else (some ((-4611686018427387906 : Int64), M))))
set_option maxRecDepth 100000 in
set_option maxHeartbeats 4000000 in
theorem c_X8_list {l : Launch} {D : va_G} {ac : Nat → ClassId} {A : Nat → Prop} {ad : Nat → Nat} {rest : va_W} (N : Nat) (x1 : Int32) (x2 : Int64)  (M : Mem) (r0 : Int64) (M0 : Mem) (hf : f_X8_list N x1 x2 M = some (r0, M0)) : CtJ l D ac A tabM ad rest yX8_list cX8_list 6  3 [.ref (ad 0), .int x1, .long x2] M r0 M0 := by
  refine ct_ofJ (own := RX8) (by decide +kernel) rfl (Nat.le_of_ble_eq_true rfl) ?_
  intro p e s m args below meth c C
  unfold f_X8_list at hf
  refine a_L (L' := [(0, .ref (ad 0)), (1, .int x1), (2, .long x2)]) rfl ?_
  refine a_aload_n (pc := 0) C dX8_list_0 0 rfl ?_
  refine a_iload_n (pc := 1) C dX8_list_1 1 rfl ?_
  refine a_callV_Ir (pc := 2) (d' := 2) C dX8_list_2 ml_X8_122 mc_X8_isPoint mv_X8_isPoint tm_0 rfl [.int x1] rfl (Nat.le_of_ble_eq_true rfl) (Nat.le_of_ble_eq_true rfl) rfl (Nat.le_of_ble_eq_true rfl) (fun r h => c_X8_isPoint N x1  _  r h) hf (fun v1 hf => ?_)
  refine a_if_eq (pc := 5) 18 C dX8_list_5 (by decide) hf (fun hf => ?_) (fun hf => ?_)
  · refine a_ldc2 (pc := 18) C dX8_list_18 cj_X8_143 ?_
    exact a_lret (pc := 21) C dX8_list_21 (so_1 hf) (so_2 hf)
  · refine a_lload_n (pc := 8) C dX8_list_8 2 rfl ?_
    refine a_ldc2 (pc := 9) C dX8_list_9 cj_X8_141 ?_
    refine a_land (pc := 12) C dX8_list_12 ?_
    refine a_lconst (pc := 13) (v := 0) C dX8_list_13 (by decide) ?_
    refine a_lcmp (pc := 14) C dX8_list_14 ?_
    refine a_if_eq (pc := 15) 22 C dX8_list_15 (by decide) hf (fun hf => ?_) (fun hf => ?_)
    · refine a_aload_n (pc := 22) C dX8_list_22 0 rfl ?_
      refine a_getR (pc := 23) C dX8_list_23 fl_X8_28 tm_0 rfl ?_
      refine a_iload_n (pc := 26) C dX8_list_26 1 rfl ?_
      refine a_lald (pc := 27) C dX8_list_27 tm_5 hf (fun hf => ?_)
      refine a_nml hf (fun v3 hf => ?_)
      refine a_lstore (pc := 28) [(4, .long v3), (0, .ref (ad 0)), (1, .int x1), (2, .long x2)] C dX8_list_28 (by decide) rfl ?_
      refine a_aload_n (pc := 30) C dX8_list_30 1 rfl ?_
      refine a_getR (pc := 31) C dX8_list_31 fl_X8_28 tm_0 rfl ?_
      refine a_iload_n (pc := 34) C dX8_list_34 2 rfl ?_
      refine a_lload_n (pc := 35) C dX8_list_35 3 rfl ?_
      refine a_last (pc := 36) C dX8_list_36 tm_5 hf (fun M4 hf => ?_)
      refine a_lload (pc := 37) C dX8_list_37 0 rfl ?_
      exact a_lret (pc := 39) C dX8_list_39 (so_1 hf) (so_2 hf)
    · refine a_ldc2 (pc := 18) C dX8_list_18 cj_X8_143 ?_
      exact a_lret (pc := 21) C dX8_list_21 (so_1 hf) (so_2 hf)
theorem dX8_count_0 : decode cX8_count 0 = .ok (.iconst 0, 1) := by decide +kernel
theorem dX8_count_1 : decode cX8_count 1 = .ok (.istore_n 2, 1) := by decide +kernel
theorem dX8_count_2 : decode cX8_count 2 = .ok (.iconst 0, 1) := by decide +kernel
theorem dX8_count_3 : decode cX8_count 3 = .ok (.istore_n 3, 1) := by decide +kernel
theorem dX8_count_4 : decode cX8_count 4 = .ok (.iload_n 3, 1) := by decide +kernel
theorem dX8_count_5 : decode cX8_count 5 = .ok (.aload_n 0, 1) := by decide +kernel
theorem dX8_count_6 : decode cX8_count 6 = .ok (.getfield 102, 3) := by decide +kernel
theorem dX8_count_9 : decode cX8_count 9 = .ok (.if_icmp .ge 17, 3) := by decide +kernel
theorem dX8_count_12 : decode cX8_count 12 = .ok (.iload_n 2, 1) := by decide +kernel
theorem dX8_count_13 : decode cX8_count 13 = .ok (.aload_n 0, 1) := by decide +kernel
theorem dX8_count_14 : decode cX8_count 14 = .ok (.iload_n 3, 1) := by decide +kernel
theorem dX8_count_15 : decode cX8_count 15 = .ok (.invokevirtual 137, 3) := by decide +kernel
theorem dX8_count_18 : decode cX8_count 18 = .ok (.iadd, 1) := by decide +kernel
theorem dX8_count_19 : decode cX8_count 19 = .ok (.istore_n 2, 1) := by decide +kernel
theorem dX8_count_20 : decode cX8_count 20 = .ok (.iinc 3 1, 3) := by decide +kernel
theorem dX8_count_23 : decode cX8_count 23 = .ok (.goto (-19), 3) := by decide +kernel
theorem dX8_count_26 : decode cX8_count 26 = .ok (.iload_n 1, 1) := by decide +kernel
theorem dX8_count_27 : decode cX8_count 27 = .ok (.tableswitch 55 0 4 #[33, 38, 43, 45, 50], 33) := by decide +kernel
theorem dX8_count_60 : decode cX8_count 60 = .ok (.aload_n 0, 1) := by decide +kernel
theorem dX8_count_61 : decode cX8_count 61 = .ok (.getfield 95, 3) := by decide +kernel
theorem dX8_count_64 : decode cX8_count 64 = .ok (.ireturn, 1) := by decide +kernel
theorem dX8_count_65 : decode cX8_count 65 = .ok (.aload_n 0, 1) := by decide +kernel
theorem dX8_count_66 : decode cX8_count 66 = .ok (.getfield 102, 3) := by decide +kernel
theorem dX8_count_69 : decode cX8_count 69 = .ok (.ireturn, 1) := by decide +kernel
theorem dX8_count_70 : decode cX8_count 70 = .ok (.iload_n 2, 1) := by decide +kernel
theorem dX8_count_71 : decode cX8_count 71 = .ok (.ireturn, 1) := by decide +kernel
theorem dX8_count_72 : decode cX8_count 72 = .ok (.aload_n 0, 1) := by decide +kernel
theorem dX8_count_73 : decode cX8_count 73 = .ok (.getfield 7, 3) := by decide +kernel
theorem dX8_count_76 : decode cX8_count 76 = .ok (.ireturn, 1) := by decide +kernel
theorem dX8_count_77 : decode cX8_count 77 = .ok (.aload_n 0, 1) := by decide +kernel
theorem dX8_count_78 : decode cX8_count 78 = .ok (.getfield 145, 3) := by decide +kernel
theorem dX8_count_81 : decode cX8_count 81 = .ok (.ireturn, 1) := by decide +kernel
theorem dX8_count_82 : decode cX8_count 82 = .ok (.bipush (-2), 2) := by decide +kernel
theorem dX8_count_84 : decode cX8_count 84 = .ok (.ireturn, 1) := by decide +kernel
def f_X8_count (N : Nat) (x1 : Int32) (M : Mem) : Option (Int32) := lp (fun (k4 : (Int32 × Int32) → Option (Int32)) (a4 : Int32 × Int32) => if (M.1 0 1) ≤ a4.2 then (if x1 = 0 then (some (M.1 0 0)) else if x1 = 1 then (some (M.1 0 1)) else if x1 = 2 then (some a4.1) else if x1 = 3 then (some (M.1 0 2)) else if x1 = 4 then (some (M.1 0 31)) else (some (-2 : Int32))) else (bd (f_X8_gap N a4.2 M) (fun v6 => nm (a4.1 + v6) (fun v8 => nm (a4.2 + (1 : Int32)) (fun v9 => k4 (v8, v9)))))) N ((0 : Int32), (0 : Int32))
set_option maxRecDepth 100000 in
set_option maxHeartbeats 4000000 in
theorem c_X8_count {l : Launch} {D : va_G} {ac : Nat → ClassId} {A : Nat → Prop} {ad : Nat → Nat} {rest : va_W} (N : Nat) (x1 : Int32)  (M : Mem) (r0 : Int32) (hf : f_X8_count N x1 M = some r0) : CtI l D ac A tabM ad rest yX8_count cX8_count 4 .int 3 [.ref (ad 0), .int x1] M r0 M := by
  refine ct_ofI (own := RX8) (by decide +kernel) rfl (Nat.le_of_ble_eq_true rfl) ?_
  intro p e s m args below meth c C
  unfold f_X8_count at hf
  refine a_L (L' := [(0, .ref (ad 0)), (1, .int x1)]) rfl ?_
  refine a_iconst (pc := 0) (v := 0) C dX8_count_0 (by decide) ?_
  refine a_istore_n (pc := 1) [(2, .int (0 : Int32)), (0, .ref (ad 0)), (1, .int x1)] C dX8_count_1 (by decide) rfl ?_
  refine a_iconst (pc := 2) (v := 0) C dX8_count_2 (by decide) ?_
  refine a_istore_n (pc := 3) [(3, .int (0 : Int32)), (2, .int (0 : Int32)), (0, .ref (ad 0)), (1, .int x1)] C dX8_count_3 (by decide) rfl ?_
  refine a_sub [2, 3, 1, 0] rfl ?_
  refine a_lp 4 (fun a4 : Int32 × Int32 => [(0, .ref (ad 0)), (1, .int x1), (2, .int a4.1), (3, .int a4.2)]) (fun a4 : Int32 × Int32 => []) (fun a4 : Int32 × Int32 => M) (fun k4 a4 hk4 hf => ?_) N ((0 : Int32), (0 : Int32)) hf
  refine a_iload_n (pc := 4) C dX8_count_4 3 rfl ?_
  refine a_aload_n (pc := 5) C dX8_count_5 0 rfl ?_
  refine a_getI (pc := 6) C dX8_count_6 fl_X8_102 tm_0 rfl ?_
  refine a_icmp_ge (pc := 9) 26 C dX8_count_9 (by decide) hf (fun hf => ?_) (fun hf => ?_)
  · refine a_iload_n (pc := 26) C dX8_count_26 1 rfl ?_
    by_cases hs1 : x1 = 0
    · rw [if_pos hs1] at hf
      refine a_tabIn (pc := 27) (off := 33) 60 C dX8_count_27 (by rw [hs1]; decide) (by rw [hs1]; decide) (by rw [hs1]; rfl) (by decide) ?_
      refine a_aload_n (pc := 60) C dX8_count_60 0 rfl ?_
      refine a_getI (pc := 61) C dX8_count_61 fl_X8_95 tm_0 rfl ?_
      exact a_iret (pc := 64) C dX8_count_64 (Option.some.inj hf) rfl
    · rw [if_neg hs1] at hf
      by_cases hs2 : x1 = 1
      · rw [if_pos hs2] at hf
        refine a_tabIn (pc := 27) (off := 38) 65 C dX8_count_27 (by rw [hs2]; decide) (by rw [hs2]; decide) (by rw [hs2]; rfl) (by decide) ?_
        refine a_aload_n (pc := 65) C dX8_count_65 0 rfl ?_
        refine a_getI (pc := 66) C dX8_count_66 fl_X8_102 tm_0 rfl ?_
        exact a_iret (pc := 69) C dX8_count_69 (Option.some.inj hf) rfl
      · rw [if_neg hs2] at hf
        by_cases hs3 : x1 = 2
        · rw [if_pos hs3] at hf
          refine a_tabIn (pc := 27) (off := 43) 70 C dX8_count_27 (by rw [hs3]; decide) (by rw [hs3]; decide) (by rw [hs3]; rfl) (by decide) ?_
          refine a_iload_n (pc := 70) C dX8_count_70 2 rfl ?_
          exact a_iret (pc := 71) C dX8_count_71 (Option.some.inj hf) rfl
        · rw [if_neg hs3] at hf
          by_cases hs4 : x1 = 3
          · rw [if_pos hs4] at hf
            refine a_tabIn (pc := 27) (off := 45) 72 C dX8_count_27 (by rw [hs4]; decide) (by rw [hs4]; decide) (by rw [hs4]; rfl) (by decide) ?_
            refine a_aload_n (pc := 72) C dX8_count_72 0 rfl ?_
            refine a_getI (pc := 73) C dX8_count_73 fl_X8_7 tm_0 rfl ?_
            exact a_iret (pc := 76) C dX8_count_76 (Option.some.inj hf) rfl
          · rw [if_neg hs4] at hf
            by_cases hs5 : x1 = 4
            · rw [if_pos hs5] at hf
              refine a_tabIn (pc := 27) (off := 50) 77 C dX8_count_27 (by rw [hs5]; decide) (by rw [hs5]; decide) (by rw [hs5]; rfl) (by decide) ?_
              refine a_aload_n (pc := 77) C dX8_count_77 0 rfl ?_
              refine a_getI (pc := 78) C dX8_count_78 fl_X8_145 tm_0 rfl ?_
              exact a_iret (pc := 81) C dX8_count_81 (Option.some.inj hf) rfl
            · rw [if_neg hs5] at hf
              refine a_tabOut (pc := 27) 82 C dX8_count_27 (by have nhs1 := ne_toInt hs1 (k := 0) (by decide); have nhs2 := ne_toInt hs2 (k := 1) (by decide); have nhs3 := ne_toInt hs3 (k := 2) (by decide); have nhs4 := ne_toInt hs4 (k := 3) (by decide); have nhs5 := ne_toInt hs5 (k := 4) (by decide); omega) (by decide) ?_
              refine a_bipush (pc := 82) (v := (-2)) C dX8_count_82 (by decide) ?_
              exact a_iret (pc := 84) C dX8_count_84 (Option.some.inj hf) rfl
  · refine a_iload_n (pc := 12) C dX8_count_12 2 rfl ?_
    refine a_aload_n (pc := 13) C dX8_count_13 0 rfl ?_
    refine a_iload_n (pc := 14) C dX8_count_14 3 rfl ?_
    refine a_callV_Ir (pc := 15) (d' := 2) C dX8_count_15 ml_X8_137 mc_X8_gap mv_X8_gap tm_0 rfl [.int a4.2] rfl (Nat.le_of_ble_eq_true rfl) (Nat.le_of_ble_eq_true rfl) rfl (Nat.le_of_ble_eq_true rfl) (fun r h => c_X8_gap N a4.2  _  r h) hf (fun v6 hf => ?_)
    refine a_iadd (pc := 18) C dX8_count_18 ?_
    refine a_nmi hf (fun v8 hf => ?_)
    refine a_istore_n (pc := 19) [(2, .int v8), (0, .ref (ad 0)), (1, .int x1), (3, .int a4.2)] C dX8_count_19 (by decide) rfl ?_
    refine a_iinc (pc := 20) (v := 1) (fun v9 => [(3, .int v9), (2, .int v8), (0, .ref (ad 0)), (1, .int x1)]) C dX8_count_20 3 rfl (by decide) (by decide) (fun _ => rfl) hf (fun v9 hf => ?_)
    refine a_goto (pc := 23) 4 C dX8_count_23 (by decide) ?_
    exact a_sub [2, 3, 1, 0] rfl (hk4 (v8, v9) hf)
theorem dX8_narrows_0 : decode cX8_narrows 0 = .ok (.iconst 1, 1) := by decide +kernel
theorem dX8_narrows_1 : decode cX8_narrows 1 = .ok (.istore 4, 2) := by decide +kernel
theorem dX8_narrows_3 : decode cX8_narrows 3 = .ok (.iconst 0, 1) := by decide +kernel
theorem dX8_narrows_4 : decode cX8_narrows 4 = .ok (.istore 5, 2) := by decide +kernel
theorem dX8_narrows_6 : decode cX8_narrows 6 = .ok (.iload 5, 2) := by decide +kernel
theorem dX8_narrows_8 : decode cX8_narrows 8 = .ok (.aload_n 0, 1) := by decide +kernel
theorem dX8_narrows_9 : decode cX8_narrows 9 = .ok (.getfield 95, 3) := by decide +kernel
theorem dX8_narrows_12 : decode cX8_narrows 12 = .ok (.if_icmp .ge 35, 3) := by decide +kernel
theorem dX8_narrows_15 : decode cX8_narrows 15 = .ok (.aload_n 0, 1) := by decide +kernel
theorem dX8_narrows_16 : decode cX8_narrows 16 = .ok (.getfield 35, 3) := by decide +kernel
theorem dX8_narrows_19 : decode cX8_narrows 19 = .ok (.bipush 6, 2) := by decide +kernel
theorem dX8_narrows_21 : decode cX8_narrows 21 = .ok (.iload_n 1, 1) := by decide +kernel
theorem dX8_narrows_22 : decode cX8_narrows 22 = .ok (.iconst 1, 1) := by decide +kernel
theorem dX8_narrows_23 : decode cX8_narrows 23 = .ok (.iadd, 1) := by decide +kernel
theorem dX8_narrows_24 : decode cX8_narrows 24 = .ok (.imul, 1) := by decide +kernel
theorem dX8_narrows_25 : decode cX8_narrows 25 = .ok (.iload 5, 2) := by decide +kernel
theorem dX8_narrows_27 : decode cX8_narrows 27 = .ok (.iadd, 1) := by decide +kernel
theorem dX8_narrows_28 : decode cX8_narrows 28 = .ok (.aload_n 0, 1) := by decide +kernel
theorem dX8_narrows_29 : decode cX8_narrows 29 = .ok (.getfield 35, 3) := by decide +kernel
theorem dX8_narrows_32 : decode cX8_narrows 32 = .ok (.bipush 6, 2) := by decide +kernel
theorem dX8_narrows_34 : decode cX8_narrows 34 = .ok (.iload_n 1, 1) := by decide +kernel
theorem dX8_narrows_35 : decode cX8_narrows 35 = .ok (.imul, 1) := by decide +kernel
theorem dX8_narrows_36 : decode cX8_narrows 36 = .ok (.iload 5, 2) := by decide +kernel
theorem dX8_narrows_38 : decode cX8_narrows 38 = .ok (.iadd, 1) := by decide +kernel
theorem dX8_narrows_39 : decode cX8_narrows 39 = .ok (.laload, 1) := by decide +kernel
theorem dX8_narrows_40 : decode cX8_narrows 40 = .ok (.lastore, 1) := by decide +kernel
theorem dX8_narrows_41 : decode cX8_narrows 41 = .ok (.iinc 5 1, 3) := by decide +kernel
theorem dX8_narrows_44 : decode cX8_narrows 44 = .ok (.goto (-38), 3) := by decide +kernel
theorem dX8_narrows_47 : decode cX8_narrows 47 = .ok (.aload_n 0, 1) := by decide +kernel
theorem dX8_narrows_48 : decode cX8_narrows 48 = .ok (.getfield 35, 3) := by decide +kernel
theorem dX8_narrows_51 : decode cX8_narrows 51 = .ok (.bipush 6, 2) := by decide +kernel
theorem dX8_narrows_53 : decode cX8_narrows 53 = .ok (.iload_n 1, 1) := by decide +kernel
theorem dX8_narrows_54 : decode cX8_narrows 54 = .ok (.iconst 1, 1) := by decide +kernel
theorem dX8_narrows_55 : decode cX8_narrows 55 = .ok (.iadd, 1) := by decide +kernel
theorem dX8_narrows_56 : decode cX8_narrows 56 = .ok (.imul, 1) := by decide +kernel
theorem dX8_narrows_57 : decode cX8_narrows 57 = .ok (.iload_n 2, 1) := by decide +kernel
theorem dX8_narrows_58 : decode cX8_narrows 58 = .ok (.iadd, 1) := by decide +kernel
theorem dX8_narrows_59 : decode cX8_narrows 59 = .ok (.lconst 1, 1) := by decide +kernel
theorem dX8_narrows_60 : decode cX8_narrows 60 = .ok (.iload_n 3, 1) := by decide +kernel
theorem dX8_narrows_61 : decode cX8_narrows 61 = .ok (.lshl, 1) := by decide +kernel
theorem dX8_narrows_62 : decode cX8_narrows 62 = .ok (.lastore, 1) := by decide +kernel
theorem dX8_narrows_63 : decode cX8_narrows 63 = .ok (.iconst 0, 1) := by decide +kernel
theorem dX8_narrows_64 : decode cX8_narrows 64 = .ok (.istore 5, 2) := by decide +kernel
theorem dX8_narrows_66 : decode cX8_narrows 66 = .ok (.iload 5, 2) := by decide +kernel
theorem dX8_narrows_68 : decode cX8_narrows 68 = .ok (.aload_n 0, 1) := by decide +kernel
theorem dX8_narrows_69 : decode cX8_narrows 69 = .ok (.getfield 102, 3) := by decide +kernel
theorem dX8_narrows_72 : decode cX8_narrows 72 = .ok (.if_icmp .ge 128, 3) := by decide +kernel
theorem dX8_narrows_75 : decode cX8_narrows 75 = .ok (.aload_n 0, 1) := by decide +kernel
theorem dX8_narrows_76 : decode cX8_narrows 76 = .ok (.getfield 20, 3) := by decide +kernel
theorem dX8_narrows_79 : decode cX8_narrows 79 = .ok (.iload 5, 2) := by decide +kernel
theorem dX8_narrows_81 : decode cX8_narrows 81 = .ok (.iaload, 1) := by decide +kernel
theorem dX8_narrows_82 : decode cX8_narrows 82 = .ok (.iload_n 2, 1) := by decide +kernel
theorem dX8_narrows_83 : decode cX8_narrows 83 = .ok (.if_icmp .eq 17, 3) := by decide +kernel
theorem dX8_narrows_86 : decode cX8_narrows 86 = .ok (.aload_n 0, 1) := by decide +kernel
theorem dX8_narrows_87 : decode cX8_narrows 87 = .ok (.getfield 23, 3) := by decide +kernel
theorem dX8_narrows_90 : decode cX8_narrows 90 = .ok (.iload 5, 2) := by decide +kernel
theorem dX8_narrows_92 : decode cX8_narrows 92 = .ok (.iaload, 1) := by decide +kernel
theorem dX8_narrows_93 : decode cX8_narrows 93 = .ok (.iload_n 2, 1) := by decide +kernel
theorem dX8_narrows_94 : decode cX8_narrows 94 = .ok (.if_icmp .eq 6, 3) := by decide +kernel
theorem dX8_narrows_97 : decode cX8_narrows 97 = .ok (.goto 97, 3) := by decide +kernel
theorem dX8_narrows_100 : decode cX8_narrows 100 = .ok (.aload_n 0, 1) := by decide +kernel
theorem dX8_narrows_101 : decode cX8_narrows 101 = .ok (.getfield 20, 3) := by decide +kernel
theorem dX8_narrows_104 : decode cX8_narrows 104 = .ok (.iload 5, 2) := by decide +kernel
theorem dX8_narrows_106 : decode cX8_narrows 106 = .ok (.iaload, 1) := by decide +kernel
theorem dX8_narrows_107 : decode cX8_narrows 107 = .ok (.iload_n 2, 1) := by decide +kernel
theorem dX8_narrows_108 : decode cX8_narrows 108 = .ok (.if_icmp .ne 13, 3) := by decide +kernel
theorem dX8_narrows_111 : decode cX8_narrows 111 = .ok (.aload_n 0, 1) := by decide +kernel
theorem dX8_narrows_112 : decode cX8_narrows 112 = .ok (.getfield 23, 3) := by decide +kernel
theorem dX8_narrows_115 : decode cX8_narrows 115 = .ok (.iload 5, 2) := by decide +kernel
theorem dX8_narrows_117 : decode cX8_narrows 117 = .ok (.iaload, 1) := by decide +kernel
theorem dX8_narrows_118 : decode cX8_narrows 118 = .ok (.goto 10, 3) := by decide +kernel
theorem dX8_narrows_121 : decode cX8_narrows 121 = .ok (.aload_n 0, 1) := by decide +kernel
theorem dX8_narrows_122 : decode cX8_narrows 122 = .ok (.getfield 20, 3) := by decide +kernel
theorem dX8_narrows_125 : decode cX8_narrows 125 = .ok (.iload 5, 2) := by decide +kernel
theorem dX8_narrows_127 : decode cX8_narrows 127 = .ok (.iaload, 1) := by decide +kernel
theorem dX8_narrows_128 : decode cX8_narrows 128 = .ok (.istore 6, 2) := by decide +kernel
theorem dX8_narrows_130 : decode cX8_narrows 130 = .ok (.aload_n 0, 1) := by decide +kernel
theorem dX8_narrows_131 : decode cX8_narrows 131 = .ok (.getfield 35, 3) := by decide +kernel
theorem dX8_narrows_134 : decode cX8_narrows 134 = .ok (.bipush 6, 2) := by decide +kernel
theorem dX8_narrows_136 : decode cX8_narrows 136 = .ok (.iload_n 1, 1) := by decide +kernel
theorem dX8_narrows_137 : decode cX8_narrows 137 = .ok (.iconst 1, 1) := by decide +kernel
theorem dX8_narrows_138 : decode cX8_narrows 138 = .ok (.iadd, 1) := by decide +kernel
theorem dX8_narrows_139 : decode cX8_narrows 139 = .ok (.imul, 1) := by decide +kernel
theorem dX8_narrows_140 : decode cX8_narrows 140 = .ok (.iload 6, 2) := by decide +kernel
theorem dX8_narrows_142 : decode cX8_narrows 142 = .ok (.iadd, 1) := by decide +kernel
theorem dX8_narrows_143 : decode cX8_narrows 143 = .ok (.dup2, 1) := by decide +kernel
theorem dX8_narrows_144 : decode cX8_narrows 144 = .ok (.laload, 1) := by decide +kernel
theorem dX8_narrows_145 : decode cX8_narrows 145 = .ok (.aload_n 0, 1) := by decide +kernel
theorem dX8_narrows_146 : decode cX8_narrows 146 = .ok (.iload_n 3, 1) := by decide +kernel
theorem dX8_narrows_147 : decode cX8_narrows 147 = .ok (.aload_n 0, 1) := by decide +kernel
theorem dX8_narrows_148 : decode cX8_narrows 148 = .ok (.getfield 151, 3) := by decide +kernel
theorem dX8_narrows_151 : decode cX8_narrows 151 = .ok (.aload_n 0, 1) := by decide +kernel
theorem dX8_narrows_152 : decode cX8_narrows 152 = .ok (.iload 5, 2) := by decide +kernel
theorem dX8_narrows_154 : decode cX8_narrows 154 = .ok (.invokevirtual 137, 3) := by decide +kernel
theorem dX8_narrows_157 : decode cX8_narrows 157 = .ok (.imul, 1) := by decide +kernel
theorem dX8_narrows_158 : decode cX8_narrows 158 = .ok (.invokevirtual 154, 3) := by decide +kernel
theorem dX8_narrows_161 : decode cX8_narrows 161 = .ok (.land, 1) := by decide +kernel
theorem dX8_narrows_162 : decode cX8_narrows 162 = .ok (.lastore, 1) := by decide +kernel
theorem dX8_narrows_163 : decode cX8_narrows 163 = .ok (.iload 4, 2) := by decide +kernel
theorem dX8_narrows_165 : decode cX8_narrows 165 = .ok (.ifCond .eq 26, 3) := by decide +kernel
theorem dX8_narrows_168 : decode cX8_narrows 168 = .ok (.aload_n 0, 1) := by decide +kernel
theorem dX8_narrows_169 : decode cX8_narrows 169 = .ok (.getfield 35, 3) := by decide +kernel
theorem dX8_narrows_172 : decode cX8_narrows 172 = .ok (.bipush 6, 2) := by decide +kernel
theorem dX8_narrows_174 : decode cX8_narrows 174 = .ok (.iload_n 1, 1) := by decide +kernel
theorem dX8_narrows_175 : decode cX8_narrows 175 = .ok (.iconst 1, 1) := by decide +kernel
theorem dX8_narrows_176 : decode cX8_narrows 176 = .ok (.iadd, 1) := by decide +kernel
theorem dX8_narrows_177 : decode cX8_narrows 177 = .ok (.imul, 1) := by decide +kernel
theorem dX8_narrows_178 : decode cX8_narrows 178 = .ok (.iload 6, 2) := by decide +kernel
theorem dX8_narrows_180 : decode cX8_narrows 180 = .ok (.iadd, 1) := by decide +kernel
theorem dX8_narrows_181 : decode cX8_narrows 181 = .ok (.laload, 1) := by decide +kernel
theorem dX8_narrows_182 : decode cX8_narrows 182 = .ok (.lconst 0, 1) := by decide +kernel
theorem dX8_narrows_183 : decode cX8_narrows 183 = .ok (.lcmp, 1) := by decide +kernel
theorem dX8_narrows_184 : decode cX8_narrows 184 = .ok (.ifCond .eq 7, 3) := by decide +kernel
theorem dX8_narrows_187 : decode cX8_narrows 187 = .ok (.iconst 1, 1) := by decide +kernel
theorem dX8_narrows_188 : decode cX8_narrows 188 = .ok (.goto 4, 3) := by decide +kernel
theorem dX8_narrows_191 : decode cX8_narrows 191 = .ok (.iconst 0, 1) := by decide +kernel
theorem dX8_narrows_192 : decode cX8_narrows 192 = .ok (.istore 4, 2) := by decide +kernel
theorem dX8_narrows_194 : decode cX8_narrows 194 = .ok (.iinc 5 1, 3) := by decide +kernel
theorem dX8_narrows_197 : decode cX8_narrows 197 = .ok (.goto (-131), 3) := by decide +kernel
theorem dX8_narrows_200 : decode cX8_narrows 200 = .ok (.iload 4, 2) := by decide +kernel
theorem dX8_narrows_202 : decode cX8_narrows 202 = .ok (.ireturn, 1) := by decide +kernel
def f_X8_narrows (N : Nat) (x1 : Int32) (x2 : Int32) (x3 : Int32) (M : Mem) : Option (Int32 × Mem) := lp (fun (k6 : (Int32 × Mem) → Option (Int32 × Mem)) (a6 : Int32 × Mem) => if (a6.2.1 0 0) ≤ a6.1 then (ck (inb (((6 : Int32) * (x1 + (1 : Int32))) + x2) 42) (nm (setJ a6.2 6 (((6 : Int32) * (x1 + (1 : Int32))) + x2).toNatClampNeg ((1 : Int64) <<< (x3.toInt64 &&& 63))) (fun M1 => lp (fun (k66 : (Int32 × Int32 × Mem) → Option (Int32 × Mem)) (a66 : Int32 × Int32 × Mem) => if (a66.2.2.1 0 1) ≤ a66.2.1 then (ck (a66.1 = 0 ∨ a66.1 = 1) (some (a66.1, a66.2.2))) else (ck (inb a66.2.1 10) (jn (fun (a194 : Int32 × Mem) => nm (a66.2.1 + (1 : Int32)) (fun v2 => k66 (a194.1, v2, a194.2))) (fun (k194 : (Int32 × Mem) → Option (Int32 × Mem)) => jn (fun (a100 : Unit) => ck (inb a66.2.1 10) (jn (fun (a128 : Int32) => ck (inb (((6 : Int32) * (x1 + (1 : Int32))) + a128) 42) (bd (f_X8_gap N a66.2.1 a66.2.2) (fun v3 => bd (f_X8_apart N x3 ((a66.2.2.1 0 13) * v3) a66.2.2) (fun v5 => ck (inb (((6 : Int32) * (x1 + (1 : Int32))) + a128) 42) (nm (setJ a66.2.2 6 (((6 : Int32) * (x1 + (1 : Int32))) + a128).toNatClampNeg ((a66.2.2.2 6 (((6 : Int32) * (x1 + (1 : Int32))) + a128).toNatClampNeg) &&& v5)) (fun M7 => jn (fun (a192 : Int32) => k194 (a192, M7)) (fun (k192 : Int32 → Option (Int32 × Mem)) => jn (fun (a191 : Unit) => k192 (0 : Int32)) (fun (k191 : Unit → Option (Int32 × Mem)) => if a66.1 = 0 then (k191 ()) else (ck (inb (((6 : Int32) * (x1 + (1 : Int32))) + a128) 42) (if (lg_cmp (M7.2 6 (((6 : Int32) * (x1 + (1 : Int32))) + a128).toNatClampNeg) (0 : Int64)) = 0 then (k191 ()) else (k192 (1 : Int32)))))))))))) (fun (k128 : Int32 → Option (Int32 × Mem)) => if (a66.2.2.1 3 a66.2.1.toNatClampNeg) = x2 then (ck (inb a66.2.1 10) (k128 (a66.2.2.1 4 a66.2.1.toNatClampNeg))) else (ck (inb a66.2.1 10) (k128 (a66.2.2.1 3 a66.2.1.toNatClampNeg)))))) (fun (k100 : Unit → Option (Int32 × Mem)) => if (a66.2.2.1 3 a66.2.1.toNatClampNeg) = x2 then (k100 ()) else (ck (inb a66.2.1 10) (if (a66.2.2.1 4 a66.2.1.toNatClampNeg) = x2 then (k100 ()) else (k194 (a66.1, a66.2.2))))))))) N ((1 : Int32), (0 : Int32), M1)))) else (ck (inb (((6 : Int32) * x1) + a6.1) 42) (ck (inb (((6 : Int32) * (x1 + (1 : Int32))) + a6.1) 42) (nm (setJ a6.2 6 (((6 : Int32) * (x1 + (1 : Int32))) + a6.1).toNatClampNeg (a6.2.2 6 (((6 : Int32) * x1) + a6.1).toNatClampNeg)) (fun M8 => nm (a6.1 + (1 : Int32)) (fun v9 => k6 (v9, M8))))))) N ((0 : Int32), M)
set_option maxRecDepth 100000 in
set_option maxHeartbeats 4000000 in
theorem c_X8_narrows {l : Launch} {D : va_G} {ac : Nat → ClassId} {A : Nat → Prop} {ad : Nat → Nat} {rest : va_W} (N : Nat) (x1 : Int32) (x2 : Int32) (x3 : Int32)  (M : Mem) (r0 : Int32) (M0 : Mem) (hf : f_X8_narrows N x1 x2 x3 M = some (r0, M0)) : CtI l D ac A tabM ad rest yX8_narrows cX8_narrows 7 .boolean 3 [.ref (ad 0), .int x1, .int x2, .int x3] M r0 M0 := by
  refine ct_ofI (own := RX8) (by decide +kernel) rfl (Nat.le_of_ble_eq_true rfl) ?_
  intro p e s m args below meth c C
  unfold f_X8_narrows at hf
  refine a_L (L' := [(0, .ref (ad 0)), (1, .int x1), (2, .int x2), (3, .int x3)]) rfl ?_
  refine a_iconst (pc := 0) (v := 1) C dX8_narrows_0 (by decide) ?_
  refine a_istore (pc := 1) [(4, .int (1 : Int32)), (0, .ref (ad 0)), (1, .int x1), (2, .int x2), (3, .int x3)] C dX8_narrows_1 (by decide) rfl ?_
  refine a_iconst (pc := 3) (v := 0) C dX8_narrows_3 (by decide) ?_
  refine a_istore (pc := 4) [(5, .int (0 : Int32)), (4, .int (1 : Int32)), (0, .ref (ad 0)), (1, .int x1), (2, .int x2), (3, .int x3)] C dX8_narrows_4 (by decide) rfl ?_
  refine a_sub [2, 3, 4, 5, 1, 0] rfl ?_
  refine a_lp 6 (fun a6 : Int32 × Mem => [(0, .ref (ad 0)), (1, .int x1), (2, .int x2), (3, .int x3), (4, .int (1 : Int32)), (5, .int a6.1)]) (fun a6 : Int32 × Mem => []) (fun a6 : Int32 × Mem => a6.2) (fun k6 a6 hk6 hf => ?_) N ((0 : Int32), M) hf
  refine a_iload (pc := 6) C dX8_narrows_6 5 rfl ?_
  refine a_aload_n (pc := 8) C dX8_narrows_8 0 rfl ?_
  refine a_getI (pc := 9) C dX8_narrows_9 fl_X8_95 tm_0 rfl ?_
  refine a_icmp_ge (pc := 12) 47 C dX8_narrows_12 (by decide) hf (fun hf => ?_) (fun hf => ?_)
  · refine a_aload_n (pc := 47) C dX8_narrows_47 0 rfl ?_
    refine a_getR (pc := 48) C dX8_narrows_48 fl_X8_35 tm_0 rfl ?_
    refine a_bipush (pc := 51) (v := 6) C dX8_narrows_51 (by decide) ?_
    refine a_iload_n (pc := 53) C dX8_narrows_53 1 rfl ?_
    refine a_iconst (pc := 54) (v := 1) C dX8_narrows_54 (by decide) ?_
    refine a_iadd (pc := 55) C dX8_narrows_55 ?_
    refine a_imul (pc := 56) C dX8_narrows_56 ?_
    refine a_iload_n (pc := 57) C dX8_narrows_57 2 rfl ?_
    refine a_iadd (pc := 58) C dX8_narrows_58 ?_
    refine a_lconst (pc := 59) (v := 1) C dX8_narrows_59 (by decide) ?_
    refine a_iload_n (pc := 60) C dX8_narrows_60 3 rfl ?_
    refine a_lshl (pc := 61) C dX8_narrows_61 ?_
    refine a_last (pc := 62) C dX8_narrows_62 tm_6 hf (fun M1 hf => ?_)
    refine a_iconst (pc := 63) (v := 0) C dX8_narrows_63 (by decide) ?_
    refine a_istore (pc := 64) [(5, .int (0 : Int32)), (0, .ref (ad 0)), (1, .int x1), (2, .int x2), (3, .int x3), (4, .int (1 : Int32))] C dX8_narrows_64 (by decide) rfl ?_
    refine a_sub [1, 2, 3, 4, 5, 0] rfl ?_
    refine a_lp 66 (fun a66 : Int32 × Int32 × Mem => [(0, .ref (ad 0)), (1, .int x1), (2, .int x2), (3, .int x3), (4, .int a66.1), (5, .int a66.2.1)]) (fun a66 : Int32 × Int32 × Mem => []) (fun a66 : Int32 × Int32 × Mem => a66.2.2) (fun k66 a66 hk66 hf => ?_) N ((1 : Int32), (0 : Int32), M1) hf
    refine a_iload (pc := 66) C dX8_narrows_66 5 rfl ?_
    refine a_aload_n (pc := 68) C dX8_narrows_68 0 rfl ?_
    refine a_getI (pc := 69) C dX8_narrows_69 fl_X8_102 tm_0 rfl ?_
    refine a_icmp_ge (pc := 72) 200 C dX8_narrows_72 (by decide) hf (fun hf => ?_) (fun hf => ?_)
    · refine a_iload (pc := 200) C dX8_narrows_200 4 rfl ?_
      exact a_zret (pc := 202) C dX8_narrows_202 (ck_some hf).1 (so_1 (ck_some hf).2) (so_2 (ck_some hf).2)
    · refine a_aload_n (pc := 75) C dX8_narrows_75 0 rfl ?_
      refine a_getR (pc := 76) C dX8_narrows_76 fl_X8_20 tm_0 rfl ?_
      refine a_iload (pc := 79) C dX8_narrows_79 5 rfl ?_
      refine a_iald (pc := 81) C dX8_narrows_81 tm_3 hf (fun hf => ?_)
      refine a_iload_n (pc := 82) C dX8_narrows_82 2 rfl ?_
      refine a_jn 194 (fun a194 : Int32 × Mem => [(0, .ref (ad 0)), (1, .int x1), (2, .int x2), (3, .int x3), (4, .int a194.1), (5, .int a66.2.1)]) (fun a194 : Int32 × Mem => []) (fun a194 : Int32 × Mem => a194.2) hf (fun a194 hf => ?_) (fun k194 hk194 hf => ?_)
      · refine a_iinc (pc := 194) (v := 1) (fun v2 => [(5, .int v2), (0, .ref (ad 0)), (1, .int x1), (2, .int x2), (3, .int x3), (4, .int a194.1)]) C dX8_narrows_194 5 rfl (by decide) (by decide) (fun _ => rfl) hf (fun v2 hf => ?_)
        refine a_goto (pc := 197) 66 C dX8_narrows_197 (by decide) ?_
        exact a_sub [1, 2, 3, 4, 5, 0] rfl (hk66 (a194.1, v2, a194.2) hf)
      · refine a_jn 100 (fun a100 : Unit => [(0, .ref (ad 0)), (1, .int x1), (2, .int x2), (3, .int x3), (4, .int a66.1), (5, .int a66.2.1)]) (fun a100 : Unit => []) (fun a100 : Unit => a66.2.2) hf (fun a100 hf => ?_) (fun k100 hk100 hf => ?_)
        · refine a_aload_n (pc := 100) C dX8_narrows_100 0 rfl ?_
          refine a_getR (pc := 101) C dX8_narrows_101 fl_X8_20 tm_0 rfl ?_
          refine a_iload (pc := 104) C dX8_narrows_104 5 rfl ?_
          refine a_iald (pc := 106) C dX8_narrows_106 tm_3 hf (fun hf => ?_)
          refine a_iload_n (pc := 107) C dX8_narrows_107 2 rfl ?_
          refine a_jn 128 (fun a128 : Int32 => [(0, .ref (ad 0)), (1, .int x1), (2, .int x2), (3, .int x3), (4, .int a66.1), (5, .int a66.2.1)]) (fun a128 : Int32 => [.int a128]) (fun a128 : Int32 => a66.2.2) hf (fun a128 hf => ?_) (fun k128 hk128 hf => ?_)
          · refine a_istore (pc := 128) [(6, .int a128), (0, .ref (ad 0)), (1, .int x1), (2, .int x2), (3, .int x3), (4, .int a66.1), (5, .int a66.2.1)] C dX8_narrows_128 (by decide) rfl ?_
            refine a_aload_n (pc := 130) C dX8_narrows_130 1 rfl ?_
            refine a_getR (pc := 131) C dX8_narrows_131 fl_X8_35 tm_0 rfl ?_
            refine a_bipush (pc := 134) (v := 6) C dX8_narrows_134 (by decide) ?_
            refine a_iload_n (pc := 136) C dX8_narrows_136 2 rfl ?_
            refine a_iconst (pc := 137) (v := 1) C dX8_narrows_137 (by decide) ?_
            refine a_iadd (pc := 138) C dX8_narrows_138 ?_
            refine a_imul (pc := 139) C dX8_narrows_139 ?_
            refine a_iload (pc := 140) C dX8_narrows_140 0 rfl ?_
            refine a_iadd (pc := 142) C dX8_narrows_142 ?_
            refine a_dup2_11 (pc := 143) C dX8_narrows_143 rfl rfl ?_
            refine a_lald (pc := 144) C dX8_narrows_144 tm_6 hf (fun hf => ?_)
            refine a_aload_n (pc := 145) C dX8_narrows_145 1 rfl ?_
            refine a_iload_n (pc := 146) C dX8_narrows_146 4 rfl ?_
            refine a_aload_n (pc := 147) C dX8_narrows_147 1 rfl ?_
            refine a_getI (pc := 148) C dX8_narrows_148 fl_X8_151 tm_0 rfl ?_
            refine a_aload_n (pc := 151) C dX8_narrows_151 1 rfl ?_
            refine a_iload (pc := 152) C dX8_narrows_152 6 rfl ?_
            refine a_callV_Ir (pc := 154) (d' := 2) C dX8_narrows_154 ml_X8_137 mc_X8_gap mv_X8_gap tm_0 rfl [.int a66.2.1] rfl (Nat.le_of_ble_eq_true rfl) (Nat.le_of_ble_eq_true rfl) rfl (Nat.le_of_ble_eq_true rfl) (fun r h => c_X8_gap N a66.2.1  _  r h) hf (fun v3 hf => ?_)
            refine a_imul (pc := 157) C dX8_narrows_157 ?_
            refine a_callV_Jr (pc := 158) (d' := 1) C dX8_narrows_158 ml_X8_154 mc_X8_apart mv_X8_apart tm_0 rfl [.int x3, .int ((a66.2.2.1 0 13) * v3)] rfl (Nat.le_of_ble_eq_true rfl) (Nat.le_of_ble_eq_true rfl) rfl (Nat.le_of_ble_eq_true rfl) (fun r h => c_X8_apart N x3 ((a66.2.2.1 0 13) * v3)  _  r h) hf (fun v5 hf => ?_)
            refine a_land (pc := 161) C dX8_narrows_161 ?_
            refine a_last (pc := 162) C dX8_narrows_162 tm_6 hf (fun M7 hf => ?_)
            refine a_iload (pc := 163) C dX8_narrows_163 5 rfl ?_
            refine a_jn 192 (fun a192 : Int32 => [(0, .ref (ad 0)), (1, .int x1), (2, .int x2), (3, .int x3), (5, .int a66.2.1)]) (fun a192 : Int32 => [.int a192]) (fun a192 : Int32 => M7) hf (fun a192 hf => ?_) (fun k192 hk192 hf => ?_)
            · refine a_istore (pc := 192) [(4, .int a192), (0, .ref (ad 0)), (1, .int x1), (2, .int x2), (3, .int x3), (5, .int a66.2.1)] C dX8_narrows_192 (by decide) rfl ?_
              exact a_sub [1, 2, 3, 4, 0, 5] rfl (hk194 (a192, M7) hf)
            · refine a_jn 191 (fun a191 : Unit => [(0, .ref (ad 0)), (1, .int x1), (2, .int x2), (3, .int x3), (5, .int a66.2.1)]) (fun a191 : Unit => []) (fun a191 : Unit => M7) hf (fun a191 hf => ?_) (fun k191 hk191 hf => ?_)
              · refine a_iconst (pc := 191) (v := 0) C dX8_narrows_191 (by decide) ?_
                exact a_sub [0, 1, 2, 3, 4] rfl (hk192 (0 : Int32) hf)
              · refine a_if_eq (pc := 165) 191 C dX8_narrows_165 (by decide) hf (fun hf => ?_) (fun hf => ?_)
                · exact a_sub [1, 2, 3, 4, 6] rfl (hk191 () hf)
                · refine a_aload_n (pc := 168) C dX8_narrows_168 1 rfl ?_
                  refine a_getR (pc := 169) C dX8_narrows_169 fl_X8_35 tm_0 rfl ?_
                  refine a_bipush (pc := 172) (v := 6) C dX8_narrows_172 (by decide) ?_
                  refine a_iload_n (pc := 174) C dX8_narrows_174 2 rfl ?_
                  refine a_iconst (pc := 175) (v := 1) C dX8_narrows_175 (by decide) ?_
                  refine a_iadd (pc := 176) C dX8_narrows_176 ?_
                  refine a_imul (pc := 177) C dX8_narrows_177 ?_
                  refine a_iload (pc := 178) C dX8_narrows_178 0 rfl ?_
                  refine a_iadd (pc := 180) C dX8_narrows_180 ?_
                  refine a_lald (pc := 181) C dX8_narrows_181 tm_6 hf (fun hf => ?_)
                  refine a_lconst (pc := 182) (v := 0) C dX8_narrows_182 (by decide) ?_
                  refine a_lcmp (pc := 183) C dX8_narrows_183 ?_
                  refine a_if_eq (pc := 184) 191 C dX8_narrows_184 (by decide) hf (fun hf => ?_) (fun hf => ?_)
                  · exact a_sub [1, 2, 3, 4, 6] rfl (hk191 () hf)
                  · refine a_iconst (pc := 187) (v := 1) C dX8_narrows_187 (by decide) ?_
                    refine a_goto (pc := 188) 192 C dX8_narrows_188 (by decide) ?_
                    exact a_sub [1, 2, 3, 4, 6] rfl (hk192 (1 : Int32) hf)
          · refine a_icmp_ne (pc := 108) 121 C dX8_narrows_108 (by decide) hf (fun hf => ?_) (fun hf => ?_)
            · refine a_aload_n (pc := 121) C dX8_narrows_121 0 rfl ?_
              refine a_getR (pc := 122) C dX8_narrows_122 fl_X8_20 tm_0 rfl ?_
              refine a_iload (pc := 125) C dX8_narrows_125 5 rfl ?_
              refine a_iald (pc := 127) C dX8_narrows_127 tm_3 hf (fun hf => ?_)
              exact a_sub [0, 1, 2, 3, 4, 5] rfl (hk128 (a66.2.2.1 3 a66.2.1.toNatClampNeg) hf)
            · refine a_aload_n (pc := 111) C dX8_narrows_111 0 rfl ?_
              refine a_getR (pc := 112) C dX8_narrows_112 fl_X8_23 tm_0 rfl ?_
              refine a_iload (pc := 115) C dX8_narrows_115 5 rfl ?_
              refine a_iald (pc := 117) C dX8_narrows_117 tm_4 hf (fun hf => ?_)
              refine a_goto (pc := 118) 128 C dX8_narrows_118 (by decide) ?_
              exact a_sub [0, 1, 2, 3, 4, 5] rfl (hk128 (a66.2.2.1 4 a66.2.1.toNatClampNeg) hf)
        · refine a_icmp_eq (pc := 83) 100 C dX8_narrows_83 (by decide) hf (fun hf => ?_) (fun hf => ?_)
          · exact a_sub [0, 1, 2, 3, 4, 5] rfl (hk100 () hf)
          · refine a_aload_n (pc := 86) C dX8_narrows_86 0 rfl ?_
            refine a_getR (pc := 87) C dX8_narrows_87 fl_X8_23 tm_0 rfl ?_
            refine a_iload (pc := 90) C dX8_narrows_90 5 rfl ?_
            refine a_iald (pc := 92) C dX8_narrows_92 tm_4 hf (fun hf => ?_)
            refine a_iload_n (pc := 93) C dX8_narrows_93 2 rfl ?_
            refine a_icmp_eq (pc := 94) 100 C dX8_narrows_94 (by decide) hf (fun hf => ?_) (fun hf => ?_)
            · exact a_sub [0, 1, 2, 3, 4, 5] rfl (hk100 () hf)
            · refine a_goto (pc := 97) 194 C dX8_narrows_97 (by decide) ?_
              exact a_sub [0, 1, 2, 3, 4, 5] rfl (hk194 (a66.1, a66.2.2) hf)
  · refine a_aload_n (pc := 15) C dX8_narrows_15 0 rfl ?_
    refine a_getR (pc := 16) C dX8_narrows_16 fl_X8_35 tm_0 rfl ?_
    refine a_bipush (pc := 19) (v := 6) C dX8_narrows_19 (by decide) ?_
    refine a_iload_n (pc := 21) C dX8_narrows_21 1 rfl ?_
    refine a_iconst (pc := 22) (v := 1) C dX8_narrows_22 (by decide) ?_
    refine a_iadd (pc := 23) C dX8_narrows_23 ?_
    refine a_imul (pc := 24) C dX8_narrows_24 ?_
    refine a_iload (pc := 25) C dX8_narrows_25 5 rfl ?_
    refine a_iadd (pc := 27) C dX8_narrows_27 ?_
    refine a_aload_n (pc := 28) C dX8_narrows_28 0 rfl ?_
    refine a_getR (pc := 29) C dX8_narrows_29 fl_X8_35 tm_0 rfl ?_
    refine a_bipush (pc := 32) (v := 6) C dX8_narrows_32 (by decide) ?_
    refine a_iload_n (pc := 34) C dX8_narrows_34 1 rfl ?_
    refine a_imul (pc := 35) C dX8_narrows_35 ?_
    refine a_iload (pc := 36) C dX8_narrows_36 5 rfl ?_
    refine a_iadd (pc := 38) C dX8_narrows_38 ?_
    refine a_lald (pc := 39) C dX8_narrows_39 tm_6 hf (fun hf => ?_)
    refine a_last (pc := 40) C dX8_narrows_40 tm_6 hf (fun M8 hf => ?_)
    refine a_iinc (pc := 41) (v := 1) (fun v9 => [(5, .int v9), (0, .ref (ad 0)), (1, .int x1), (2, .int x2), (3, .int x3), (4, .int (1 : Int32))]) C dX8_narrows_41 5 rfl (by decide) (by decide) (fun _ => rfl) hf (fun v9 hf => ?_)
    refine a_goto (pc := 44) 6 C dX8_narrows_44 (by decide) ?_
    exact a_sub [1, 2, 3, 4, 5, 0] rfl (hk6 (v9, M8) hf)
theorem dX8_isFarEnough_0 : decode cX8_isFarEnough 0 = .ok (.iconst 1, 1) := by decide +kernel
theorem dX8_isFarEnough_1 : decode cX8_isFarEnough 1 = .ok (.istore_n 2, 1) := by decide +kernel
theorem dX8_isFarEnough_2 : decode cX8_isFarEnough 2 = .ok (.iconst 0, 1) := by decide +kernel
theorem dX8_isFarEnough_3 : decode cX8_isFarEnough 3 = .ok (.istore_n 3, 1) := by decide +kernel
theorem dX8_isFarEnough_4 : decode cX8_isFarEnough 4 = .ok (.iload_n 3, 1) := by decide +kernel
theorem dX8_isFarEnough_5 : decode cX8_isFarEnough 5 = .ok (.aload_n 0, 1) := by decide +kernel
theorem dX8_isFarEnough_6 : decode cX8_isFarEnough 6 = .ok (.getfield 102, 3) := by decide +kernel
theorem dX8_isFarEnough_9 : decode cX8_isFarEnough 9 = .ok (.if_icmp .ge 63, 3) := by decide +kernel
theorem dX8_isFarEnough_12 : decode cX8_isFarEnough 12 = .ok (.iload_n 2, 1) := by decide +kernel
theorem dX8_isFarEnough_13 : decode cX8_isFarEnough 13 = .ok (.ifCond .eq 51, 3) := by decide +kernel
theorem dX8_isFarEnough_16 : decode cX8_isFarEnough 16 = .ok (.aload_n 0, 1) := by decide +kernel
theorem dX8_isFarEnough_17 : decode cX8_isFarEnough 17 = .ok (.getfield 23, 3) := by decide +kernel
theorem dX8_isFarEnough_20 : decode cX8_isFarEnough 20 = .ok (.iload_n 3, 1) := by decide +kernel
theorem dX8_isFarEnough_21 : decode cX8_isFarEnough 21 = .ok (.iaload, 1) := by decide +kernel
theorem dX8_isFarEnough_22 : decode cX8_isFarEnough 22 = .ok (.iload_n 1, 1) := by decide +kernel
theorem dX8_isFarEnough_23 : decode cX8_isFarEnough 23 = .ok (.if_icmp .ne 37, 3) := by decide +kernel
theorem dX8_isFarEnough_26 : decode cX8_isFarEnough 26 = .ok (.aload_n 0, 1) := by decide +kernel
theorem dX8_isFarEnough_27 : decode cX8_isFarEnough 27 = .ok (.aload_n 0, 1) := by decide +kernel
theorem dX8_isFarEnough_28 : decode cX8_isFarEnough 28 = .ok (.getfield 38, 3) := by decide +kernel
theorem dX8_isFarEnough_31 : decode cX8_isFarEnough 31 = .ok (.aload_n 0, 1) := by decide +kernel
theorem dX8_isFarEnough_32 : decode cX8_isFarEnough 32 = .ok (.getfield 20, 3) := by decide +kernel
theorem dX8_isFarEnough_35 : decode cX8_isFarEnough 35 = .ok (.iload_n 3, 1) := by decide +kernel
theorem dX8_isFarEnough_36 : decode cX8_isFarEnough 36 = .ok (.iaload, 1) := by decide +kernel
theorem dX8_isFarEnough_37 : decode cX8_isFarEnough 37 = .ok (.iaload, 1) := by decide +kernel
theorem dX8_isFarEnough_38 : decode cX8_isFarEnough 38 = .ok (.aload_n 0, 1) := by decide +kernel
theorem dX8_isFarEnough_39 : decode cX8_isFarEnough 39 = .ok (.getfield 38, 3) := by decide +kernel
theorem dX8_isFarEnough_42 : decode cX8_isFarEnough 42 = .ok (.iload_n 1, 1) := by decide +kernel
theorem dX8_isFarEnough_43 : decode cX8_isFarEnough 43 = .ok (.iaload, 1) := by decide +kernel
theorem dX8_isFarEnough_44 : decode cX8_isFarEnough 44 = .ok (.aload_n 0, 1) := by decide +kernel
theorem dX8_isFarEnough_45 : decode cX8_isFarEnough 45 = .ok (.getfield 151, 3) := by decide +kernel
theorem dX8_isFarEnough_48 : decode cX8_isFarEnough 48 = .ok (.aload_n 0, 1) := by decide +kernel
theorem dX8_isFarEnough_49 : decode cX8_isFarEnough 49 = .ok (.iload_n 3, 1) := by decide +kernel
theorem dX8_isFarEnough_50 : decode cX8_isFarEnough 50 = .ok (.invokevirtual 137, 3) := by decide +kernel
theorem dX8_isFarEnough_53 : decode cX8_isFarEnough 53 = .ok (.imul, 1) := by decide +kernel
theorem dX8_isFarEnough_54 : decode cX8_isFarEnough 54 = .ok (.invokevirtual 186, 3) := by decide +kernel
theorem dX8_isFarEnough_57 : decode cX8_isFarEnough 57 = .ok (.ifCond .eq 7, 3) := by decide +kernel
theorem dX8_isFarEnough_60 : decode cX8_isFarEnough 60 = .ok (.iconst 1, 1) := by decide +kernel
theorem dX8_isFarEnough_61 : decode cX8_isFarEnough 61 = .ok (.goto 4, 3) := by decide +kernel
theorem dX8_isFarEnough_64 : decode cX8_isFarEnough 64 = .ok (.iconst 0, 1) := by decide +kernel
theorem dX8_isFarEnough_65 : decode cX8_isFarEnough 65 = .ok (.istore_n 2, 1) := by decide +kernel
theorem dX8_isFarEnough_66 : decode cX8_isFarEnough 66 = .ok (.iinc 3 1, 3) := by decide +kernel
theorem dX8_isFarEnough_69 : decode cX8_isFarEnough 69 = .ok (.goto (-65), 3) := by decide +kernel
theorem dX8_isFarEnough_72 : decode cX8_isFarEnough 72 = .ok (.iload_n 2, 1) := by decide +kernel
theorem dX8_isFarEnough_73 : decode cX8_isFarEnough 73 = .ok (.ireturn, 1) := by decide +kernel
def f_X8_isFarEnough (N : Nat) (x1 : Int32) (M : Mem) : Option (Int32) := lp (fun (k4 : (Int32 × Int32) → Option (Int32)) (a4 : Int32 × Int32) => if (M.1 0 1) ≤ a4.2 then (ck (a4.1 = 0 ∨ a4.1 = 1) (some a4.1)) else (jn (fun (a65 : Int32) => nm (a4.2 + (1 : Int32)) (fun v1 => k4 (a65, v1))) (fun (k65 : Int32 → Option (Int32)) => jn (fun (a64 : Unit) => k65 (0 : Int32)) (fun (k64 : Unit → Option (Int32)) => if a4.1 = 0 then (k64 ()) else (ck (inb a4.2 10) (jn (fun (a60 : Unit) => k65 (1 : Int32)) (fun (k60 : Unit → Option (Int32)) => if (M.1 4 a4.2.toNatClampNeg) = x1 then (ck (inb a4.2 10) (ck (inb (M.1 3 a4.2.toNatClampNeg) 6) (ck (inb x1 6) (bd (f_X8_gap N a4.2 M) (fun v2 => bd (f_X8_isFar N (M.1 7 (M.1 3 a4.2.toNatClampNeg).toNatClampNeg) (M.1 7 x1.toNatClampNeg) ((M.1 0 13) * v2) M) (fun v4 => if v4 = 0 then (k64 ()) else (k60 ()))))))) else (k60 ())))))))) N ((1 : Int32), (0 : Int32))
set_option maxRecDepth 100000 in
set_option maxHeartbeats 4000000 in
theorem c_X8_isFarEnough {l : Launch} {D : va_G} {ac : Nat → ClassId} {A : Nat → Prop} {ad : Nat → Nat} {rest : va_W} (N : Nat) (x1 : Int32)  (M : Mem) (r0 : Int32) (hf : f_X8_isFarEnough N x1 M = some r0) : CtI l D ac A tabM ad rest yX8_isFarEnough cX8_isFarEnough 4 .boolean 3 [.ref (ad 0), .int x1] M r0 M := by
  refine ct_ofI (own := RX8) (by decide +kernel) rfl (Nat.le_of_ble_eq_true rfl) ?_
  intro p e s m args below meth c C
  unfold f_X8_isFarEnough at hf
  refine a_L (L' := [(0, .ref (ad 0)), (1, .int x1)]) rfl ?_
  refine a_iconst (pc := 0) (v := 1) C dX8_isFarEnough_0 (by decide) ?_
  refine a_istore_n (pc := 1) [(2, .int (1 : Int32)), (0, .ref (ad 0)), (1, .int x1)] C dX8_isFarEnough_1 (by decide) rfl ?_
  refine a_iconst (pc := 2) (v := 0) C dX8_isFarEnough_2 (by decide) ?_
  refine a_istore_n (pc := 3) [(3, .int (0 : Int32)), (2, .int (1 : Int32)), (0, .ref (ad 0)), (1, .int x1)] C dX8_isFarEnough_3 (by decide) rfl ?_
  refine a_sub [2, 3, 1, 0] rfl ?_
  refine a_lp 4 (fun a4 : Int32 × Int32 => [(0, .ref (ad 0)), (1, .int x1), (2, .int a4.1), (3, .int a4.2)]) (fun a4 : Int32 × Int32 => []) (fun a4 : Int32 × Int32 => M) (fun k4 a4 hk4 hf => ?_) N ((1 : Int32), (0 : Int32)) hf
  refine a_iload_n (pc := 4) C dX8_isFarEnough_4 3 rfl ?_
  refine a_aload_n (pc := 5) C dX8_isFarEnough_5 0 rfl ?_
  refine a_getI (pc := 6) C dX8_isFarEnough_6 fl_X8_102 tm_0 rfl ?_
  refine a_icmp_ge (pc := 9) 72 C dX8_isFarEnough_9 (by decide) hf (fun hf => ?_) (fun hf => ?_)
  · refine a_iload_n (pc := 72) C dX8_isFarEnough_72 2 rfl ?_
    exact a_zret (pc := 73) C dX8_isFarEnough_73 (ck_some hf).1 (Option.some.inj (ck_some hf).2) rfl
  · refine a_iload_n (pc := 12) C dX8_isFarEnough_12 2 rfl ?_
    refine a_jn 65 (fun a65 : Int32 => [(0, .ref (ad 0)), (1, .int x1), (3, .int a4.2)]) (fun a65 : Int32 => [.int a65]) (fun a65 : Int32 => M) hf (fun a65 hf => ?_) (fun k65 hk65 hf => ?_)
    · refine a_istore_n (pc := 65) [(2, .int a65), (0, .ref (ad 0)), (1, .int x1), (3, .int a4.2)] C dX8_isFarEnough_65 (by decide) rfl ?_
      refine a_iinc (pc := 66) (v := 1) (fun v1 => [(3, .int v1), (2, .int a65), (0, .ref (ad 0)), (1, .int x1)]) C dX8_isFarEnough_66 3 rfl (by decide) (by decide) (fun _ => rfl) hf (fun v1 hf => ?_)
      refine a_goto (pc := 69) 4 C dX8_isFarEnough_69 (by decide) ?_
      exact a_sub [2, 3, 1, 0] rfl (hk4 (a65, v1) hf)
    · refine a_jn 64 (fun a64 : Unit => [(0, .ref (ad 0)), (1, .int x1), (3, .int a4.2)]) (fun a64 : Unit => []) (fun a64 : Unit => M) hf (fun a64 hf => ?_) (fun k64 hk64 hf => ?_)
      · refine a_iconst (pc := 64) (v := 0) C dX8_isFarEnough_64 (by decide) ?_
        exact a_sub [0, 1, 2] rfl (hk65 (0 : Int32) hf)
      · refine a_if_eq (pc := 13) 64 C dX8_isFarEnough_13 (by decide) hf (fun hf => ?_) (fun hf => ?_)
        · exact a_sub [0, 1, 3] rfl (hk64 () hf)
        · refine a_aload_n (pc := 16) C dX8_isFarEnough_16 0 rfl ?_
          refine a_getR (pc := 17) C dX8_isFarEnough_17 fl_X8_23 tm_0 rfl ?_
          refine a_iload_n (pc := 20) C dX8_isFarEnough_20 3 rfl ?_
          refine a_iald (pc := 21) C dX8_isFarEnough_21 tm_4 hf (fun hf => ?_)
          refine a_iload_n (pc := 22) C dX8_isFarEnough_22 1 rfl ?_
          refine a_jn 60 (fun a60 : Unit => [(0, .ref (ad 0)), (1, .int x1), (3, .int a4.2)]) (fun a60 : Unit => []) (fun a60 : Unit => M) hf (fun a60 hf => ?_) (fun k60 hk60 hf => ?_)
          · refine a_iconst (pc := 60) (v := 1) C dX8_isFarEnough_60 (by decide) ?_
            refine a_goto (pc := 61) 65 C dX8_isFarEnough_61 (by decide) ?_
            exact a_sub [0, 1, 2] rfl (hk65 (1 : Int32) hf)
          · refine a_icmp_ne (pc := 23) 60 C dX8_isFarEnough_23 (by decide) hf (fun hf => ?_) (fun hf => ?_)
            · exact a_sub [0, 1, 3] rfl (hk60 () hf)
            · refine a_aload_n (pc := 26) C dX8_isFarEnough_26 0 rfl ?_
              refine a_aload_n (pc := 27) C dX8_isFarEnough_27 0 rfl ?_
              refine a_getR (pc := 28) C dX8_isFarEnough_28 fl_X8_38 tm_0 rfl ?_
              refine a_aload_n (pc := 31) C dX8_isFarEnough_31 0 rfl ?_
              refine a_getR (pc := 32) C dX8_isFarEnough_32 fl_X8_20 tm_0 rfl ?_
              refine a_iload_n (pc := 35) C dX8_isFarEnough_35 3 rfl ?_
              refine a_iald (pc := 36) C dX8_isFarEnough_36 tm_3 hf (fun hf => ?_)
              refine a_iald (pc := 37) C dX8_isFarEnough_37 tm_7 hf (fun hf => ?_)
              refine a_aload_n (pc := 38) C dX8_isFarEnough_38 0 rfl ?_
              refine a_getR (pc := 39) C dX8_isFarEnough_39 fl_X8_38 tm_0 rfl ?_
              refine a_iload_n (pc := 42) C dX8_isFarEnough_42 1 rfl ?_
              refine a_iald (pc := 43) C dX8_isFarEnough_43 tm_7 hf (fun hf => ?_)
              refine a_aload_n (pc := 44) C dX8_isFarEnough_44 0 rfl ?_
              refine a_getI (pc := 45) C dX8_isFarEnough_45 fl_X8_151 tm_0 rfl ?_
              refine a_aload_n (pc := 48) C dX8_isFarEnough_48 0 rfl ?_
              refine a_iload_n (pc := 49) C dX8_isFarEnough_49 3 rfl ?_
              refine a_callV_Ir (pc := 50) (d' := 2) C dX8_isFarEnough_50 ml_X8_137 mc_X8_gap mv_X8_gap tm_0 rfl [.int a4.2] rfl (Nat.le_of_ble_eq_true rfl) (Nat.le_of_ble_eq_true rfl) rfl (Nat.le_of_ble_eq_true rfl) (fun r h => c_X8_gap N a4.2  _  r h) hf (fun v2 hf => ?_)
              refine a_imul (pc := 53) C dX8_isFarEnough_53 ?_
              refine a_callV_Ir (pc := 54) (d' := 1) C dX8_isFarEnough_54 ml_X8_186 mc_X8_isFar mv_X8_isFar tm_0 rfl [.int (M.1 7 (M.1 3 a4.2.toNatClampNeg).toNatClampNeg), .int (M.1 7 x1.toNatClampNeg), .int ((M.1 0 13) * v2)] rfl (Nat.le_of_ble_eq_true rfl) (Nat.le_of_ble_eq_true rfl) rfl (Nat.le_of_ble_eq_true rfl) (fun r h => c_X8_isFar N (M.1 7 (M.1 3 a4.2.toNatClampNeg).toNatClampNeg) (M.1 7 x1.toNatClampNeg) ((M.1 0 13) * v2)  _  r h) hf (fun v4 hf => ?_)
              refine a_if_eq (pc := 57) 64 C dX8_isFarEnough_57 (by decide) hf (fun hf => ?_) (fun hf => ?_)
              · exact a_sub [0, 1, 3] rfl (hk64 () hf)
              · exact a_sub [0, 1, 3] rfl (hk60 () hf)
theorem dX8_laysRings_0 : decode cX8_laysRings 0 = .ok (.aload_n 0, 1) := by decide +kernel
theorem dX8_laysRings_1 : decode cX8_laysRings 1 = .ok (.iconst 0, 1) := by decide +kernel
theorem dX8_laysRings_2 : decode cX8_laysRings 2 = .ok (.putfield 197, 3) := by decide +kernel
theorem dX8_laysRings_5 : decode cX8_laysRings 5 = .ok (.iconst 1, 1) := by decide +kernel
theorem dX8_laysRings_6 : decode cX8_laysRings 6 = .ok (.istore_n 1, 1) := by decide +kernel
theorem dX8_laysRings_7 : decode cX8_laysRings 7 = .ok (.iload_n 1, 1) := by decide +kernel
theorem dX8_laysRings_8 : decode cX8_laysRings 8 = .ok (.iconst 1, 1) := by decide +kernel
theorem dX8_laysRings_9 : decode cX8_laysRings 9 = .ok (.aload_n 0, 1) := by decide +kernel
theorem dX8_laysRings_10 : decode cX8_laysRings 10 = .ok (.getfield 102, 3) := by decide +kernel
theorem dX8_laysRings_13 : decode cX8_laysRings 13 = .ok (.ishl, 1) := by decide +kernel
theorem dX8_laysRings_14 : decode cX8_laysRings 14 = .ok (.if_icmp .ge 14, 3) := by decide +kernel
theorem dX8_laysRings_17 : decode cX8_laysRings 17 = .ok (.aload_n 0, 1) := by decide +kernel
theorem dX8_laysRings_18 : decode cX8_laysRings 18 = .ok (.iload_n 1, 1) := by decide +kernel
theorem dX8_laysRings_19 : decode cX8_laysRings 19 = .ok (.invokevirtual 200, 3) := by decide +kernel
theorem dX8_laysRings_22 : decode cX8_laysRings 22 = .ok (.iinc 1 1, 3) := by decide +kernel
theorem dX8_laysRings_25 : decode cX8_laysRings 25 = .ok (.goto (-18), 3) := by decide +kernel
theorem dX8_laysRings_28 : decode cX8_laysRings 28 = .ok (.return_, 1) := by decide +kernel
def f_X8_laysRings (N : Nat)  (M : Mem) : Option (Mem) := nm (setI M 0 17 (0 : Int32)) (fun M1 => lp (fun (k7 : (Int32 × Mem) → Option (Mem)) (a7 : Int32 × Mem) => if ((1 : Int32) <<< ((a7.2.1 0 1) &&& 31)) ≤ a7.1 then (some a7.2) else (bd (f_X8_takes N a7.1 a7.2) (fun M3 => nm (a7.1 + (1 : Int32)) (fun v4 => k7 (v4, M3))))) N ((1 : Int32), M1))
set_option maxRecDepth 100000 in
set_option maxHeartbeats 4000000 in
theorem c_X8_laysRings {l : Launch} {D : va_G} {ac : Nat → ClassId} {A : Nat → Prop} {ad : Nat → Nat} {rest : va_W} (N : Nat)   (M : Mem)  (M0 : Mem) (hf : f_X8_laysRings N  M = some M0) : CtV l D ac A tabM ad rest yX8_laysRings cX8_laysRings 2  3 [.ref (ad 0)] M  M0 := by
  refine ct_ofV (own := RX8) (by decide +kernel) rfl (Nat.le_of_ble_eq_true rfl) ?_
  intro p e s m args below meth c C
  unfold f_X8_laysRings at hf
  refine a_L (L' := [(0, .ref (ad 0))]) rfl ?_
  refine a_aload_n (pc := 0) C dX8_laysRings_0 0 rfl ?_
  refine a_iconst (pc := 1) (v := 0) C dX8_laysRings_1 (by decide) ?_
  refine a_putI (pc := 2) C dX8_laysRings_2 fl_X8_197 tm_0 rfl hf (fun M1 hf => ?_)
  refine a_iconst (pc := 5) (v := 1) C dX8_laysRings_5 (by decide) ?_
  refine a_istore_n (pc := 6) [(1, .int (1 : Int32)), (0, .ref (ad 0))] C dX8_laysRings_6 (by decide) rfl ?_
  refine a_sub [1, 0] rfl ?_
  refine a_lp 7 (fun a7 : Int32 × Mem => [(0, .ref (ad 0)), (1, .int a7.1)]) (fun a7 : Int32 × Mem => []) (fun a7 : Int32 × Mem => a7.2) (fun k7 a7 hk7 hf => ?_) N ((1 : Int32), M1) hf
  refine a_iload_n (pc := 7) C dX8_laysRings_7 1 rfl ?_
  refine a_iconst (pc := 8) (v := 1) C dX8_laysRings_8 (by decide) ?_
  refine a_aload_n (pc := 9) C dX8_laysRings_9 0 rfl ?_
  refine a_getI (pc := 10) C dX8_laysRings_10 fl_X8_102 tm_0 rfl ?_
  refine a_ishl (pc := 13) C dX8_laysRings_13 ?_
  refine a_icmp_ge (pc := 14) 28 C dX8_laysRings_14 (by decide) hf (fun hf => ?_) (fun hf => ?_)
  · exact a_vret (pc := 28) C dX8_laysRings_28 (Option.some.inj hf)
  · refine a_aload_n (pc := 17) C dX8_laysRings_17 0 rfl ?_
    refine a_iload_n (pc := 18) C dX8_laysRings_18 1 rfl ?_
    refine a_callV_V (pc := 19) (d' := 2) C dX8_laysRings_19 ml_X8_200 mc_X8_takes mv_X8_takes tm_0 rfl [.int a7.1] rfl (Nat.le_of_ble_eq_true rfl) (Nat.le_of_ble_eq_true rfl) rfl (Nat.le_of_ble_eq_true rfl) (fun M' h => c_X8_takes N a7.1  _  M' h) hf (fun M3 hf => ?_)
    refine a_iinc (pc := 22) (v := 1) (fun v4 => [(1, .int v4), (0, .ref (ad 0))]) C dX8_laysRings_22 1 rfl (by decide) (by decide) (fun _ => rfl) hf (fun v4 hf => ?_)
    refine a_goto (pc := 25) 7 C dX8_laysRings_25 (by decide) ?_
    exact a_sub [1, 0] rfl (hk7 (v4, M3) hf)
theorem dX8_length_0 : decode cX8_length 0 = .ok (.iconst 0, 1) := by decide +kernel
theorem dX8_length_1 : decode cX8_length 1 = .ok (.istore_n 2, 1) := by decide +kernel
theorem dX8_length_2 : decode cX8_length 2 = .ok (.iconst 0, 1) := by decide +kernel
theorem dX8_length_3 : decode cX8_length 3 = .ok (.istore_n 3, 1) := by decide +kernel
theorem dX8_length_4 : decode cX8_length 4 = .ok (.iload_n 3, 1) := by decide +kernel
theorem dX8_length_5 : decode cX8_length 5 = .ok (.aload_n 0, 1) := by decide +kernel
theorem dX8_length_6 : decode cX8_length 6 = .ok (.getfield 102, 3) := by decide +kernel
theorem dX8_length_9 : decode cX8_length 9 = .ok (.if_icmp .ge 29, 3) := by decide +kernel
theorem dX8_length_12 : decode cX8_length 12 = .ok (.iload_n 2, 1) := by decide +kernel
theorem dX8_length_13 : decode cX8_length 13 = .ok (.iload_n 1, 1) := by decide +kernel
theorem dX8_length_14 : decode cX8_length 14 = .ok (.iload_n 3, 1) := by decide +kernel
theorem dX8_length_15 : decode cX8_length 15 = .ok (.invokestatic 158, 3) := by decide +kernel
theorem dX8_length_18 : decode cX8_length 18 = .ok (.ifCond .eq 11, 3) := by decide +kernel
theorem dX8_length_21 : decode cX8_length 21 = .ok (.aload_n 0, 1) := by decide +kernel
theorem dX8_length_22 : decode cX8_length 22 = .ok (.iload_n 3, 1) := by decide +kernel
theorem dX8_length_23 : decode cX8_length 23 = .ok (.invokevirtual 137, 3) := by decide +kernel
theorem dX8_length_26 : decode cX8_length 26 = .ok (.goto 4, 3) := by decide +kernel
theorem dX8_length_29 : decode cX8_length 29 = .ok (.iconst 0, 1) := by decide +kernel
theorem dX8_length_30 : decode cX8_length 30 = .ok (.iadd, 1) := by decide +kernel
theorem dX8_length_31 : decode cX8_length 31 = .ok (.istore_n 2, 1) := by decide +kernel
theorem dX8_length_32 : decode cX8_length 32 = .ok (.iinc 3 1, 3) := by decide +kernel
theorem dX8_length_35 : decode cX8_length 35 = .ok (.goto (-31), 3) := by decide +kernel
theorem dX8_length_38 : decode cX8_length 38 = .ok (.iload_n 1, 1) := by decide +kernel
theorem dX8_length_39 : decode cX8_length 39 = .ok (.i2l, 1) := by decide +kernel
theorem dX8_length_40 : decode cX8_length 40 = .ok (.invokestatic 162, 3) := by decide +kernel
theorem dX8_length_43 : decode cX8_length 43 = .ok (.iconst 1, 1) := by decide +kernel
theorem dX8_length_44 : decode cX8_length 44 = .ok (.if_icmp .ne 9, 3) := by decide +kernel
theorem dX8_length_47 : decode cX8_length 47 = .ok (.iconst 2, 1) := by decide +kernel
theorem dX8_length_48 : decode cX8_length 48 = .ok (.iload_n 2, 1) := by decide +kernel
theorem dX8_length_49 : decode cX8_length 49 = .ok (.imul, 1) := by decide +kernel
theorem dX8_length_50 : decode cX8_length 50 = .ok (.goto 4, 3) := by decide +kernel
theorem dX8_length_53 : decode cX8_length 53 = .ok (.iload_n 2, 1) := by decide +kernel
theorem dX8_length_54 : decode cX8_length 54 = .ok (.ireturn, 1) := by decide +kernel
def f_X8_length (N : Nat) (x1 : Int32) (M : Mem) : Option (Int32) := lp (fun (k4 : (Int32 × Int32) → Option (Int32)) (a4 : Int32 × Int32) => if (M.1 0 1) ≤ a4.2 then (bd (f_X8_bits N x1.toInt64 M) (fun v1 => if v1 = (1 : Int32) then (some ((2 : Int32) * a4.1)) else (some a4.1))) else (bd (f_X8_has N x1 a4.2 M) (fun v3 => jn (fun (a30 : Int32) => nm (a4.1 + a30) (fun v5 => nm (a4.2 + (1 : Int32)) (fun v6 => k4 (v5, v6)))) (fun (k30 : Int32 → Option (Int32)) => if v3 = 0 then (k30 (0 : Int32)) else (bd (f_X8_gap N a4.2 M) (fun v7 => k30 v7)))))) N ((0 : Int32), (0 : Int32))
set_option maxRecDepth 100000 in
set_option maxHeartbeats 4000000 in
theorem c_X8_length {l : Launch} {D : va_G} {ac : Nat → ClassId} {A : Nat → Prop} {ad : Nat → Nat} {rest : va_W} (N : Nat) (x1 : Int32)  (M : Mem) (r0 : Int32) (hf : f_X8_length N x1 M = some r0) : CtI l D ac A tabM ad rest yX8_length cX8_length 4 .int 3 [.ref (ad 0), .int x1] M r0 M := by
  refine ct_ofI (own := RX8) (by decide +kernel) rfl (Nat.le_of_ble_eq_true rfl) ?_
  intro p e s m args below meth c C
  unfold f_X8_length at hf
  refine a_L (L' := [(0, .ref (ad 0)), (1, .int x1)]) rfl ?_
  refine a_iconst (pc := 0) (v := 0) C dX8_length_0 (by decide) ?_
  refine a_istore_n (pc := 1) [(2, .int (0 : Int32)), (0, .ref (ad 0)), (1, .int x1)] C dX8_length_1 (by decide) rfl ?_
  refine a_iconst (pc := 2) (v := 0) C dX8_length_2 (by decide) ?_
  refine a_istore_n (pc := 3) [(3, .int (0 : Int32)), (2, .int (0 : Int32)), (0, .ref (ad 0)), (1, .int x1)] C dX8_length_3 (by decide) rfl ?_
  refine a_sub [2, 3, 1, 0] rfl ?_
  refine a_lp 4 (fun a4 : Int32 × Int32 => [(0, .ref (ad 0)), (1, .int x1), (2, .int a4.1), (3, .int a4.2)]) (fun a4 : Int32 × Int32 => []) (fun a4 : Int32 × Int32 => M) (fun k4 a4 hk4 hf => ?_) N ((0 : Int32), (0 : Int32)) hf
  refine a_iload_n (pc := 4) C dX8_length_4 3 rfl ?_
  refine a_aload_n (pc := 5) C dX8_length_5 0 rfl ?_
  refine a_getI (pc := 6) C dX8_length_6 fl_X8_102 tm_0 rfl ?_
  refine a_icmp_ge (pc := 9) 38 C dX8_length_9 (by decide) hf (fun hf => ?_) (fun hf => ?_)
  · refine a_iload_n (pc := 38) C dX8_length_38 1 rfl ?_
    refine a_i2l (pc := 39) C dX8_length_39 ?_
    refine a_callS_Ir (pc := 40) (d' := 1) C dX8_length_40 ml_X8_162 mc_X8_bits ms_X8_bits [.long x1.toInt64] rfl (Nat.le_of_ble_eq_true rfl) (Nat.le_of_ble_eq_true rfl) rfl (Nat.le_of_ble_eq_true rfl) (fun r h => c_X8_bits N x1.toInt64  _  r h) hf (fun v1 hf => ?_)
    refine a_iconst (pc := 43) (v := 1) C dX8_length_43 (by decide) ?_
    refine a_icmp_ne (pc := 44) 53 C dX8_length_44 (by decide) hf (fun hf => ?_) (fun hf => ?_)
    · refine a_iload_n (pc := 53) C dX8_length_53 2 rfl ?_
      exact a_iret (pc := 54) C dX8_length_54 (Option.some.inj hf) rfl
    · refine a_iconst (pc := 47) (v := 2) C dX8_length_47 (by decide) ?_
      refine a_iload_n (pc := 48) C dX8_length_48 2 rfl ?_
      refine a_imul (pc := 49) C dX8_length_49 ?_
      refine a_goto (pc := 50) 54 C dX8_length_50 (by decide) ?_
      exact a_iret (pc := 54) C dX8_length_54 (Option.some.inj hf) rfl
  · refine a_iload_n (pc := 12) C dX8_length_12 2 rfl ?_
    refine a_iload_n (pc := 13) C dX8_length_13 1 rfl ?_
    refine a_iload_n (pc := 14) C dX8_length_14 3 rfl ?_
    refine a_callS_Ir (pc := 15) (d' := 1) C dX8_length_15 ml_X8_158 mc_X8_has ms_X8_has [.int x1, .int a4.2] rfl (Nat.le_of_ble_eq_true rfl) (Nat.le_of_ble_eq_true rfl) rfl (Nat.le_of_ble_eq_true rfl) (fun r h => c_X8_has N x1 a4.2  _  r h) hf (fun v3 hf => ?_)
    refine a_jn 30 (fun a30 : Int32 => [(0, .ref (ad 0)), (1, .int x1), (3, .int a4.2)]) (fun a30 : Int32 => [.int a30, .int a4.1]) (fun a30 : Int32 => M) hf (fun a30 hf => ?_) (fun k30 hk30 hf => ?_)
    · refine a_iadd (pc := 30) C dX8_length_30 ?_
      refine a_nmi hf (fun v5 hf => ?_)
      refine a_istore_n (pc := 31) [(2, .int v5), (0, .ref (ad 0)), (1, .int x1), (3, .int a4.2)] C dX8_length_31 (by decide) rfl ?_
      refine a_iinc (pc := 32) (v := 1) (fun v6 => [(3, .int v6), (2, .int v5), (0, .ref (ad 0)), (1, .int x1)]) C dX8_length_32 3 rfl (by decide) (by decide) (fun _ => rfl) hf (fun v6 hf => ?_)
      refine a_goto (pc := 35) 4 C dX8_length_35 (by decide) ?_
      exact a_sub [2, 3, 1, 0] rfl (hk4 (v5, v6) hf)
    · refine a_if_eq (pc := 18) 29 C dX8_length_18 (by decide) hf (fun hf => ?_) (fun hf => ?_)
      · refine a_iconst (pc := 29) (v := 0) C dX8_length_29 (by decide) ?_
        exact a_sub [0, 1, 3] rfl (hk30 (0 : Int32) hf)
      · refine a_aload_n (pc := 21) C dX8_length_21 0 rfl ?_
        refine a_iload_n (pc := 22) C dX8_length_22 3 rfl ?_
        refine a_callV_Ir (pc := 23) (d' := 2) C dX8_length_23 ml_X8_137 mc_X8_gap mv_X8_gap tm_0 rfl [.int a4.2] rfl (Nat.le_of_ble_eq_true rfl) (Nat.le_of_ble_eq_true rfl) rfl (Nat.le_of_ble_eq_true rfl) (fun r h => c_X8_gap N a4.2  _  r h) hf (fun v7 hf => ?_)
        refine a_goto (pc := 26) 30 C dX8_length_26 (by decide) ?_
        exact a_sub [0, 1, 3] rfl (hk30 v7 hf)
theorem dX8_wrongPlaces_0 : decode cX8_wrongPlaces 0 = .ok (.iload_n 1, 1) := by decide +kernel
theorem dX8_wrongPlaces_1 : decode cX8_wrongPlaces 1 = .ok (.invokestatic 245, 3) := by decide +kernel
theorem dX8_wrongPlaces_4 : decode cX8_wrongPlaces 4 = .ok (.ifCond .eq 27, 3) := by decide +kernel
theorem dX8_wrongPlaces_7 : decode cX8_wrongPlaces 7 = .ok (.iload_n 2, 1) := by decide +kernel
theorem dX8_wrongPlaces_8 : decode cX8_wrongPlaces 8 = .ok (.i2l, 1) := by decide +kernel
theorem dX8_wrongPlaces_9 : decode cX8_wrongPlaces 9 = .ok (.lconst 1, 1) := by decide +kernel
theorem dX8_wrongPlaces_10 : decode cX8_wrongPlaces 10 = .ok (.ldc2_w 178, 3) := by decide +kernel
theorem dX8_wrongPlaces_13 : decode cX8_wrongPlaces 13 = .ok (.invokestatic 98, 3) := by decide +kernel
theorem dX8_wrongPlaces_16 : decode cX8_wrongPlaces 16 = .ok (.ifCond .eq 15, 3) := by decide +kernel
theorem dX8_wrongPlaces_19 : decode cX8_wrongPlaces 19 = .ok (.iload_n 3, 1) := by decide +kernel
theorem dX8_wrongPlaces_20 : decode cX8_wrongPlaces 20 = .ok (.i2l, 1) := by decide +kernel
theorem dX8_wrongPlaces_21 : decode cX8_wrongPlaces 21 = .ok (.lconst 1, 1) := by decide +kernel
theorem dX8_wrongPlaces_22 : decode cX8_wrongPlaces 22 = .ok (.ldc2_w 112, 3) := by decide +kernel
theorem dX8_wrongPlaces_25 : decode cX8_wrongPlaces 25 = .ok (.invokestatic 98, 3) := by decide +kernel
theorem dX8_wrongPlaces_28 : decode cX8_wrongPlaces 28 = .ok (.ifCond .ne 6, 3) := by decide +kernel
theorem dX8_wrongPlaces_31 : decode cX8_wrongPlaces 31 = .ok (.bipush (-2), 2) := by decide +kernel
theorem dX8_wrongPlaces_33 : decode cX8_wrongPlaces 33 = .ok (.ireturn, 1) := by decide +kernel
theorem dX8_wrongPlaces_34 : decode cX8_wrongPlaces 34 = .ok (.aload_n 0, 1) := by decide +kernel
theorem dX8_wrongPlaces_35 : decode cX8_wrongPlaces 35 = .ok (.getfield 77, 3) := by decide +kernel
theorem dX8_wrongPlaces_38 : decode cX8_wrongPlaces 38 = .ok (.iload_n 1, 1) := by decide +kernel
theorem dX8_wrongPlaces_39 : decode cX8_wrongPlaces 39 = .ok (.iaload, 1) := by decide +kernel
theorem dX8_wrongPlaces_40 : decode cX8_wrongPlaces 40 = .ok (.iconst (-1), 1) := by decide +kernel
theorem dX8_wrongPlaces_41 : decode cX8_wrongPlaces 41 = .ok (.if_icmp .ne 6, 3) := by decide +kernel
theorem dX8_wrongPlaces_44 : decode cX8_wrongPlaces 44 = .ok (.bipush (-11), 2) := by decide +kernel
theorem dX8_wrongPlaces_46 : decode cX8_wrongPlaces 46 = .ok (.ireturn, 1) := by decide +kernel
theorem dX8_wrongPlaces_47 : decode cX8_wrongPlaces 47 = .ok (.aload_n 0, 1) := by decide +kernel
theorem dX8_wrongPlaces_48 : decode cX8_wrongPlaces 48 = .ok (.getfield 80, 3) := by decide +kernel
theorem dX8_wrongPlaces_51 : decode cX8_wrongPlaces 51 = .ok (.iload_n 1, 1) := by decide +kernel
theorem dX8_wrongPlaces_52 : decode cX8_wrongPlaces 52 = .ok (.iaload, 1) := by decide +kernel
theorem dX8_wrongPlaces_53 : decode cX8_wrongPlaces 53 = .ok (.aload_n 0, 1) := by decide +kernel
theorem dX8_wrongPlaces_54 : decode cX8_wrongPlaces 54 = .ok (.getfield 95, 3) := by decide +kernel
theorem dX8_wrongPlaces_57 : decode cX8_wrongPlaces 57 = .ok (.if_icmp .ge 8, 3) := by decide +kernel
theorem dX8_wrongPlaces_60 : decode cX8_wrongPlaces 60 = .ok (.bipush (-12), 2) := by decide +kernel
theorem dX8_wrongPlaces_62 : decode cX8_wrongPlaces 62 = .ok (.goto 4, 3) := by decide +kernel
theorem dX8_wrongPlaces_65 : decode cX8_wrongPlaces 65 = .ok (.iconst 0, 1) := by decide +kernel
theorem dX8_wrongPlaces_66 : decode cX8_wrongPlaces 66 = .ok (.ireturn, 1) := by decide +kernel
def f_X8_wrongPlaces (N : Nat) (x1 : Int32) (x2 : Int32) (x3 : Int32) (M : Mem) : Option (Int32) := bd (f_X8_isSheet N x1 M) (fun v1 => if v1 = 0 then (some (-2 : Int32)) else (bd (f_X8_in N x2.toInt64 (1 : Int64) (40 : Int64) M) (fun v3 => if v3 = 0 then (some (-2 : Int32)) else (bd (f_X8_in N x3.toInt64 (1 : Int64) (6 : Int64) M) (fun v5 => if v5 = 0 then (some (-2 : Int32)) else (ck (inb x1 4) (if (M.1 20 x1.toNatClampNeg) = (-1 : Int32) then (some (-11 : Int32)) else (ck (inb x1 4) (if (M.1 0 0) ≤ (M.1 21 x1.toNatClampNeg) then (some (0 : Int32)) else (some (-12 : Int32)))))))))))
set_option maxRecDepth 100000 in
set_option maxHeartbeats 4000000 in
theorem c_X8_wrongPlaces {l : Launch} {D : va_G} {ac : Nat → ClassId} {A : Nat → Prop} {ad : Nat → Nat} {rest : va_W} (N : Nat) (x1 : Int32) (x2 : Int32) (x3 : Int32)  (M : Mem) (r0 : Int32) (hf : f_X8_wrongPlaces N x1 x2 x3 M = some r0) : CtI l D ac A tabM ad rest yX8_wrongPlaces cX8_wrongPlaces 4 .int 3 [.ref (ad 0), .int x1, .int x2, .int x3] M r0 M := by
  refine ct_ofI (own := RX8) (by decide +kernel) rfl (Nat.le_of_ble_eq_true rfl) ?_
  intro p e s m args below meth c C
  unfold f_X8_wrongPlaces at hf
  refine a_L (L' := [(0, .ref (ad 0)), (1, .int x1), (2, .int x2), (3, .int x3)]) rfl ?_
  refine a_iload_n (pc := 0) C dX8_wrongPlaces_0 1 rfl ?_
  refine a_callS_Ir (pc := 1) (d' := 2) C dX8_wrongPlaces_1 ml_X8_245 mc_X8_isSheet ms_X8_isSheet [.int x1] rfl (Nat.le_of_ble_eq_true rfl) (Nat.le_of_ble_eq_true rfl) rfl (Nat.le_of_ble_eq_true rfl) (fun r h => c_X8_isSheet N x1  _  r h) hf (fun v1 hf => ?_)
  refine a_if_eq (pc := 4) 31 C dX8_wrongPlaces_4 (by decide) hf (fun hf => ?_) (fun hf => ?_)
  · refine a_bipush (pc := 31) (v := (-2)) C dX8_wrongPlaces_31 (by decide) ?_
    exact a_iret (pc := 33) C dX8_wrongPlaces_33 (Option.some.inj hf) rfl
  · refine a_iload_n (pc := 7) C dX8_wrongPlaces_7 2 rfl ?_
    refine a_i2l (pc := 8) C dX8_wrongPlaces_8 ?_
    refine a_lconst (pc := 9) (v := 1) C dX8_wrongPlaces_9 (by decide) ?_
    refine a_ldc2 (pc := 10) C dX8_wrongPlaces_10 cj_X8_178 ?_
    refine a_callS_Ir (pc := 13) (d' := 1) C dX8_wrongPlaces_13 ml_X8_98 mc_X8_in ms_X8_in [.long x2.toInt64, .long (1 : Int64), .long (40 : Int64)] rfl (Nat.le_of_ble_eq_true rfl) (Nat.le_of_ble_eq_true rfl) rfl (Nat.le_of_ble_eq_true rfl) (fun r h => c_X8_in N x2.toInt64 (1 : Int64) (40 : Int64)  _  r h) hf (fun v3 hf => ?_)
    refine a_if_eq (pc := 16) 31 C dX8_wrongPlaces_16 (by decide) hf (fun hf => ?_) (fun hf => ?_)
    · refine a_bipush (pc := 31) (v := (-2)) C dX8_wrongPlaces_31 (by decide) ?_
      exact a_iret (pc := 33) C dX8_wrongPlaces_33 (Option.some.inj hf) rfl
    · refine a_iload_n (pc := 19) C dX8_wrongPlaces_19 3 rfl ?_
      refine a_i2l (pc := 20) C dX8_wrongPlaces_20 ?_
      refine a_lconst (pc := 21) (v := 1) C dX8_wrongPlaces_21 (by decide) ?_
      refine a_ldc2 (pc := 22) C dX8_wrongPlaces_22 cj_X8_112 ?_
      refine a_callS_Ir (pc := 25) (d' := 1) C dX8_wrongPlaces_25 ml_X8_98 mc_X8_in ms_X8_in [.long x3.toInt64, .long (1 : Int64), .long (6 : Int64)] rfl (Nat.le_of_ble_eq_true rfl) (Nat.le_of_ble_eq_true rfl) rfl (Nat.le_of_ble_eq_true rfl) (fun r h => c_X8_in N x3.toInt64 (1 : Int64) (6 : Int64)  _  r h) hf (fun v5 hf => ?_)
      refine a_if_ne (pc := 28) 34 C dX8_wrongPlaces_28 (by decide) hf (fun hf => ?_) (fun hf => ?_)
      · refine a_aload_n (pc := 34) C dX8_wrongPlaces_34 0 rfl ?_
        refine a_getR (pc := 35) C dX8_wrongPlaces_35 fl_X8_77 tm_0 rfl ?_
        refine a_iload_n (pc := 38) C dX8_wrongPlaces_38 1 rfl ?_
        refine a_iald (pc := 39) C dX8_wrongPlaces_39 tm_20 hf (fun hf => ?_)
        refine a_iconst (pc := 40) (v := (-1)) C dX8_wrongPlaces_40 (by decide) ?_
        refine a_icmp_ne (pc := 41) 47 C dX8_wrongPlaces_41 (by decide) hf (fun hf => ?_) (fun hf => ?_)
        · refine a_aload_n (pc := 47) C dX8_wrongPlaces_47 0 rfl ?_
          refine a_getR (pc := 48) C dX8_wrongPlaces_48 fl_X8_80 tm_0 rfl ?_
          refine a_iload_n (pc := 51) C dX8_wrongPlaces_51 1 rfl ?_
          refine a_iald (pc := 52) C dX8_wrongPlaces_52 tm_21 hf (fun hf => ?_)
          refine a_aload_n (pc := 53) C dX8_wrongPlaces_53 0 rfl ?_
          refine a_getI (pc := 54) C dX8_wrongPlaces_54 fl_X8_95 tm_0 rfl ?_
          refine a_icmp_ge (pc := 57) 65 C dX8_wrongPlaces_57 (by decide) hf (fun hf => ?_) (fun hf => ?_)
          · refine a_iconst (pc := 65) (v := 0) C dX8_wrongPlaces_65 (by decide) ?_
            exact a_iret (pc := 66) C dX8_wrongPlaces_66 (Option.some.inj hf) rfl
          · refine a_bipush (pc := 60) (v := (-12)) C dX8_wrongPlaces_60 (by decide) ?_
            refine a_goto (pc := 62) 66 C dX8_wrongPlaces_62 (by decide) ?_
            exact a_iret (pc := 66) C dX8_wrongPlaces_66 (Option.some.inj hf) rfl
        · refine a_bipush (pc := 44) (v := (-11)) C dX8_wrongPlaces_44 (by decide) ?_
          exact a_iret (pc := 46) C dX8_wrongPlaces_46 (Option.some.inj hf) rfl
      · refine a_bipush (pc := 31) (v := (-2)) C dX8_wrongPlaces_31 (by decide) ?_
        exact a_iret (pc := 33) C dX8_wrongPlaces_33 (Option.some.inj hf) rfl
theorem dX8_tightLines_0 : decode cX8_tightLines 0 = .ok (.iconst 0, 1) := by decide +kernel
theorem dX8_tightLines_1 : decode cX8_tightLines 1 = .ok (.istore_n 2, 1) := by decide +kernel
theorem dX8_tightLines_2 : decode cX8_tightLines 2 = .ok (.iconst 0, 1) := by decide +kernel
theorem dX8_tightLines_3 : decode cX8_tightLines 3 = .ok (.istore_n 3, 1) := by decide +kernel
theorem dX8_tightLines_4 : decode cX8_tightLines 4 = .ok (.iload_n 3, 1) := by decide +kernel
theorem dX8_tightLines_5 : decode cX8_tightLines 5 = .ok (.aload_n 0, 1) := by decide +kernel
theorem dX8_tightLines_6 : decode cX8_tightLines 6 = .ok (.getfield 102, 3) := by decide +kernel
theorem dX8_tightLines_9 : decode cX8_tightLines 9 = .ok (.if_icmp .ge 96, 3) := by decide +kernel
theorem dX8_tightLines_12 : decode cX8_tightLines 12 = .ok (.aload_n 0, 1) := by decide +kernel
theorem dX8_tightLines_13 : decode cX8_tightLines 13 = .ok (.getfield 38, 3) := by decide +kernel
theorem dX8_tightLines_16 : decode cX8_tightLines 16 = .ok (.iload_n 1, 1) := by decide +kernel
theorem dX8_tightLines_17 : decode cX8_tightLines 17 = .ok (.iconst 1, 1) := by decide +kernel
theorem dX8_tightLines_18 : decode cX8_tightLines 18 = .ok (.if_icmp .ne 12, 3) := by decide +kernel
theorem dX8_tightLines_21 : decode cX8_tightLines 21 = .ok (.aload_n 0, 1) := by decide +kernel
theorem dX8_tightLines_22 : decode cX8_tightLines 22 = .ok (.getfield 23, 3) := by decide +kernel
theorem dX8_tightLines_25 : decode cX8_tightLines 25 = .ok (.iload_n 3, 1) := by decide +kernel
theorem dX8_tightLines_26 : decode cX8_tightLines 26 = .ok (.iaload, 1) := by decide +kernel
theorem dX8_tightLines_27 : decode cX8_tightLines 27 = .ok (.goto 9, 3) := by decide +kernel
theorem dX8_tightLines_30 : decode cX8_tightLines 30 = .ok (.aload_n 0, 1) := by decide +kernel
theorem dX8_tightLines_31 : decode cX8_tightLines 31 = .ok (.getfield 20, 3) := by decide +kernel
theorem dX8_tightLines_34 : decode cX8_tightLines 34 = .ok (.iload_n 3, 1) := by decide +kernel
theorem dX8_tightLines_35 : decode cX8_tightLines 35 = .ok (.iaload, 1) := by decide +kernel
theorem dX8_tightLines_36 : decode cX8_tightLines 36 = .ok (.iaload, 1) := by decide +kernel
theorem dX8_tightLines_37 : decode cX8_tightLines 37 = .ok (.istore 4, 2) := by decide +kernel
theorem dX8_tightLines_39 : decode cX8_tightLines 39 = .ok (.aload_n 0, 1) := by decide +kernel
theorem dX8_tightLines_40 : decode cX8_tightLines 40 = .ok (.getfield 38, 3) := by decide +kernel
theorem dX8_tightLines_43 : decode cX8_tightLines 43 = .ok (.iload_n 1, 1) := by decide +kernel
theorem dX8_tightLines_44 : decode cX8_tightLines 44 = .ok (.iconst 1, 1) := by decide +kernel
theorem dX8_tightLines_45 : decode cX8_tightLines 45 = .ok (.if_icmp .ne 12, 3) := by decide +kernel
theorem dX8_tightLines_48 : decode cX8_tightLines 48 = .ok (.aload_n 0, 1) := by decide +kernel
theorem dX8_tightLines_49 : decode cX8_tightLines 49 = .ok (.getfield 20, 3) := by decide +kernel
theorem dX8_tightLines_52 : decode cX8_tightLines 52 = .ok (.iload_n 3, 1) := by decide +kernel
theorem dX8_tightLines_53 : decode cX8_tightLines 53 = .ok (.iaload, 1) := by decide +kernel
theorem dX8_tightLines_54 : decode cX8_tightLines 54 = .ok (.goto 9, 3) := by decide +kernel
theorem dX8_tightLines_57 : decode cX8_tightLines 57 = .ok (.aload_n 0, 1) := by decide +kernel
theorem dX8_tightLines_58 : decode cX8_tightLines 58 = .ok (.getfield 23, 3) := by decide +kernel
theorem dX8_tightLines_61 : decode cX8_tightLines 61 = .ok (.iload_n 3, 1) := by decide +kernel
theorem dX8_tightLines_62 : decode cX8_tightLines 62 = .ok (.iaload, 1) := by decide +kernel
theorem dX8_tightLines_63 : decode cX8_tightLines 63 = .ok (.iaload, 1) := by decide +kernel
theorem dX8_tightLines_64 : decode cX8_tightLines 64 = .ok (.istore 5, 2) := by decide +kernel
theorem dX8_tightLines_66 : decode cX8_tightLines 66 = .ok (.iload_n 2, 1) := by decide +kernel
theorem dX8_tightLines_67 : decode cX8_tightLines 67 = .ok (.iload 4, 2) := by decide +kernel
theorem dX8_tightLines_69 : decode cX8_tightLines 69 = .ok (.aload_n 0, 1) := by decide +kernel
theorem dX8_tightLines_70 : decode cX8_tightLines 70 = .ok (.getfield 151, 3) := by decide +kernel
theorem dX8_tightLines_73 : decode cX8_tightLines 73 = .ok (.aload_n 0, 1) := by decide +kernel
theorem dX8_tightLines_74 : decode cX8_tightLines 74 = .ok (.iload_n 3, 1) := by decide +kernel
theorem dX8_tightLines_75 : decode cX8_tightLines 75 = .ok (.invokevirtual 137, 3) := by decide +kernel
theorem dX8_tightLines_78 : decode cX8_tightLines 78 = .ok (.imul, 1) := by decide +kernel
theorem dX8_tightLines_79 : decode cX8_tightLines 79 = .ok (.iadd, 1) := by decide +kernel
theorem dX8_tightLines_80 : decode cX8_tightLines 80 = .ok (.aload_n 0, 1) := by decide +kernel
theorem dX8_tightLines_81 : decode cX8_tightLines 81 = .ok (.getfield 148, 3) := by decide +kernel
theorem dX8_tightLines_84 : decode cX8_tightLines 84 = .ok (.irem, 1) := by decide +kernel
theorem dX8_tightLines_85 : decode cX8_tightLines 85 = .ok (.iload 5, 2) := by decide +kernel
theorem dX8_tightLines_87 : decode cX8_tightLines 87 = .ok (.if_icmp .ne 9, 3) := by decide +kernel
theorem dX8_tightLines_90 : decode cX8_tightLines 90 = .ok (.iconst 1, 1) := by decide +kernel
theorem dX8_tightLines_91 : decode cX8_tightLines 91 = .ok (.iload_n 3, 1) := by decide +kernel
theorem dX8_tightLines_92 : decode cX8_tightLines 92 = .ok (.ishl, 1) := by decide +kernel
theorem dX8_tightLines_93 : decode cX8_tightLines 93 = .ok (.goto 4, 3) := by decide +kernel
theorem dX8_tightLines_96 : decode cX8_tightLines 96 = .ok (.iconst 0, 1) := by decide +kernel
theorem dX8_tightLines_97 : decode cX8_tightLines 97 = .ok (.ior, 1) := by decide +kernel
theorem dX8_tightLines_98 : decode cX8_tightLines 98 = .ok (.istore_n 2, 1) := by decide +kernel
theorem dX8_tightLines_99 : decode cX8_tightLines 99 = .ok (.iinc 3 1, 3) := by decide +kernel
theorem dX8_tightLines_102 : decode cX8_tightLines 102 = .ok (.goto (-98), 3) := by decide +kernel
theorem dX8_tightLines_105 : decode cX8_tightLines 105 = .ok (.iload_n 2, 1) := by decide +kernel
theorem dX8_tightLines_106 : decode cX8_tightLines 106 = .ok (.ireturn, 1) := by decide +kernel
def f_X8_tightLines (N : Nat) (x1 : Int32) (M : Mem) : Option (Int32) := lp (fun (k4 : (Int32 × Int32) → Option (Int32)) (a4 : Int32 × Int32) => if (M.1 0 1) ≤ a4.2 then (some a4.1) else (jn (fun (a36 : Int32) => ck (inb a36 6) (nm (M.1 7 a36.toNatClampNeg) (fun v1 => jn (fun (a63 : Int32) => ck (inb a63 6) (nm (M.1 7 a63.toNatClampNeg) (fun v2 => bd (f_X8_gap N a4.2 M) (fun v3 => ck (¬ (M.1 0 12) = 0) (jn (fun (a97 : Int32) => nm (a4.1 ||| a97) (fun v5 => nm (a4.2 + (1 : Int32)) (fun v6 => k4 (v5, v6)))) (fun (k97 : Int32 → Option (Int32)) => if ((v1 + ((M.1 0 13) * v3)) - (v1 + ((M.1 0 13) * v3)) / (M.1 0 12) * (M.1 0 12)) = v2 then (k97 ((1 : Int32) <<< (a4.2 &&& 31))) else (k97 (0 : Int32)))))))) (fun (k63 : Int32 → Option (Int32)) => if x1 = (1 : Int32) then (ck (inb a4.2 10) (k63 (M.1 3 a4.2.toNatClampNeg))) else (ck (inb a4.2 10) (k63 (M.1 4 a4.2.toNatClampNeg))))))) (fun (k36 : Int32 → Option (Int32)) => if x1 = (1 : Int32) then (ck (inb a4.2 10) (k36 (M.1 4 a4.2.toNatClampNeg))) else (ck (inb a4.2 10) (k36 (M.1 3 a4.2.toNatClampNeg)))))) N ((0 : Int32), (0 : Int32))
set_option maxRecDepth 100000 in
set_option maxHeartbeats 4000000 in
theorem c_X8_tightLines {l : Launch} {D : va_G} {ac : Nat → ClassId} {A : Nat → Prop} {ad : Nat → Nat} {rest : va_W} (N : Nat) (x1 : Int32)  (M : Mem) (r0 : Int32) (hf : f_X8_tightLines N x1 M = some r0) : CtI l D ac A tabM ad rest yX8_tightLines cX8_tightLines 6 .int 3 [.ref (ad 0), .int x1] M r0 M := by
  refine ct_ofI (own := RX8) (by decide +kernel) rfl (Nat.le_of_ble_eq_true rfl) ?_
  intro p e s m args below meth c C
  unfold f_X8_tightLines at hf
  refine a_L (L' := [(0, .ref (ad 0)), (1, .int x1)]) rfl ?_
  refine a_iconst (pc := 0) (v := 0) C dX8_tightLines_0 (by decide) ?_
  refine a_istore_n (pc := 1) [(2, .int (0 : Int32)), (0, .ref (ad 0)), (1, .int x1)] C dX8_tightLines_1 (by decide) rfl ?_
  refine a_iconst (pc := 2) (v := 0) C dX8_tightLines_2 (by decide) ?_
  refine a_istore_n (pc := 3) [(3, .int (0 : Int32)), (2, .int (0 : Int32)), (0, .ref (ad 0)), (1, .int x1)] C dX8_tightLines_3 (by decide) rfl ?_
  refine a_sub [2, 3, 1, 0] rfl ?_
  refine a_lp 4 (fun a4 : Int32 × Int32 => [(0, .ref (ad 0)), (1, .int x1), (2, .int a4.1), (3, .int a4.2)]) (fun a4 : Int32 × Int32 => []) (fun a4 : Int32 × Int32 => M) (fun k4 a4 hk4 hf => ?_) N ((0 : Int32), (0 : Int32)) hf
  refine a_iload_n (pc := 4) C dX8_tightLines_4 3 rfl ?_
  refine a_aload_n (pc := 5) C dX8_tightLines_5 0 rfl ?_
  refine a_getI (pc := 6) C dX8_tightLines_6 fl_X8_102 tm_0 rfl ?_
  refine a_icmp_ge (pc := 9) 105 C dX8_tightLines_9 (by decide) hf (fun hf => ?_) (fun hf => ?_)
  · refine a_iload_n (pc := 105) C dX8_tightLines_105 2 rfl ?_
    exact a_iret (pc := 106) C dX8_tightLines_106 (Option.some.inj hf) rfl
  · refine a_aload_n (pc := 12) C dX8_tightLines_12 0 rfl ?_
    refine a_getR (pc := 13) C dX8_tightLines_13 fl_X8_38 tm_0 rfl ?_
    refine a_iload_n (pc := 16) C dX8_tightLines_16 1 rfl ?_
    refine a_iconst (pc := 17) (v := 1) C dX8_tightLines_17 (by decide) ?_
    refine a_jn 36 (fun a36 : Int32 => [(0, .ref (ad 0)), (1, .int x1), (2, .int a4.1), (3, .int a4.2)]) (fun a36 : Int32 => [.int a36, .ref (ad 7)]) (fun a36 : Int32 => M) hf (fun a36 hf => ?_) (fun k36 hk36 hf => ?_)
    · refine a_iald (pc := 36) C dX8_tightLines_36 tm_7 hf (fun hf => ?_)
      refine a_nmi hf (fun v1 hf => ?_)
      refine a_istore (pc := 37) [(4, .int v1), (0, .ref (ad 0)), (1, .int x1), (2, .int a4.1), (3, .int a4.2)] C dX8_tightLines_37 (by decide) rfl ?_
      refine a_aload_n (pc := 39) C dX8_tightLines_39 1 rfl ?_
      refine a_getR (pc := 40) C dX8_tightLines_40 fl_X8_38 tm_0 rfl ?_
      refine a_iload_n (pc := 43) C dX8_tightLines_43 2 rfl ?_
      refine a_iconst (pc := 44) (v := 1) C dX8_tightLines_44 (by decide) ?_
      refine a_jn 63 (fun a63 : Int32 => [(0, .ref (ad 0)), (1, .int x1), (2, .int a4.1), (3, .int a4.2), (4, .int v1)]) (fun a63 : Int32 => [.int a63, .ref (ad 7)]) (fun a63 : Int32 => M) hf (fun a63 hf => ?_) (fun k63 hk63 hf => ?_)
      · refine a_iald (pc := 63) C dX8_tightLines_63 tm_7 hf (fun hf => ?_)
        refine a_nmi hf (fun v2 hf => ?_)
        refine a_istore (pc := 64) [(5, .int v2), (0, .ref (ad 0)), (1, .int x1), (2, .int a4.1), (3, .int a4.2), (4, .int v1)] C dX8_tightLines_64 (by decide) rfl ?_
        refine a_iload_n (pc := 66) C dX8_tightLines_66 3 rfl ?_
        refine a_iload (pc := 67) C dX8_tightLines_67 5 rfl ?_
        refine a_aload_n (pc := 69) C dX8_tightLines_69 1 rfl ?_
        refine a_getI (pc := 70) C dX8_tightLines_70 fl_X8_151 tm_0 rfl ?_
        refine a_aload_n (pc := 73) C dX8_tightLines_73 1 rfl ?_
        refine a_iload_n (pc := 74) C dX8_tightLines_74 4 rfl ?_
        refine a_callV_Ir (pc := 75) (d' := 2) C dX8_tightLines_75 ml_X8_137 mc_X8_gap mv_X8_gap tm_0 rfl [.int a4.2] rfl (Nat.le_of_ble_eq_true rfl) (Nat.le_of_ble_eq_true rfl) rfl (Nat.le_of_ble_eq_true rfl) (fun r h => c_X8_gap N a4.2  _  r h) hf (fun v3 hf => ?_)
        refine a_imul (pc := 78) C dX8_tightLines_78 ?_
        refine a_iadd (pc := 79) C dX8_tightLines_79 ?_
        refine a_aload_n (pc := 80) C dX8_tightLines_80 1 rfl ?_
        refine a_getI (pc := 81) C dX8_tightLines_81 fl_X8_148 tm_0 rfl ?_
        refine a_irem (pc := 84) C dX8_tightLines_84 hf (fun hf => ?_)
        refine a_iload (pc := 85) C dX8_tightLines_85 0 rfl ?_
        refine a_jn 97 (fun a97 : Int32 => [(0, .ref (ad 0)), (1, .int x1), (3, .int a4.2)]) (fun a97 : Int32 => [.int a97, .int a4.1]) (fun a97 : Int32 => M) hf (fun a97 hf => ?_) (fun k97 hk97 hf => ?_)
        · refine a_ior (pc := 97) C dX8_tightLines_97 ?_
          refine a_nmi hf (fun v5 hf => ?_)
          refine a_istore_n (pc := 98) [(2, .int v5), (0, .ref (ad 0)), (1, .int x1), (3, .int a4.2)] C dX8_tightLines_98 (by decide) rfl ?_
          refine a_iinc (pc := 99) (v := 1) (fun v6 => [(3, .int v6), (2, .int v5), (0, .ref (ad 0)), (1, .int x1)]) C dX8_tightLines_99 3 rfl (by decide) (by decide) (fun _ => rfl) hf (fun v6 hf => ?_)
          refine a_goto (pc := 102) 4 C dX8_tightLines_102 (by decide) ?_
          exact a_sub [2, 3, 1, 0] rfl (hk4 (v5, v6) hf)
        · refine a_icmp_ne (pc := 87) 96 C dX8_tightLines_87 (by decide) hf (fun hf => ?_) (fun hf => ?_)
          · refine a_iconst (pc := 96) (v := 0) C dX8_tightLines_96 (by decide) ?_
            exact a_sub [1, 2, 4] rfl (hk97 (0 : Int32) hf)
          · refine a_iconst (pc := 90) (v := 1) C dX8_tightLines_90 (by decide) ?_
            refine a_iload_n (pc := 91) C dX8_tightLines_91 4 rfl ?_
            refine a_ishl (pc := 92) C dX8_tightLines_92 ?_
            refine a_goto (pc := 93) 97 C dX8_tightLines_93 (by decide) ?_
            exact a_sub [1, 2, 4] rfl (hk97 ((1 : Int32) <<< (a4.2 &&& 31)) hf)
      · refine a_icmp_ne (pc := 45) 57 C dX8_tightLines_45 (by decide) hf (fun hf => ?_) (fun hf => ?_)
        · refine a_aload_n (pc := 57) C dX8_tightLines_57 1 rfl ?_
          refine a_getR (pc := 58) C dX8_tightLines_58 fl_X8_23 tm_0 rfl ?_
          refine a_iload_n (pc := 61) C dX8_tightLines_61 4 rfl ?_
          refine a_iald (pc := 62) C dX8_tightLines_62 tm_4 hf (fun hf => ?_)
          exact a_sub [1, 2, 3, 4, 0] rfl (hk63 (M.1 4 a4.2.toNatClampNeg) hf)
        · refine a_aload_n (pc := 48) C dX8_tightLines_48 1 rfl ?_
          refine a_getR (pc := 49) C dX8_tightLines_49 fl_X8_20 tm_0 rfl ?_
          refine a_iload_n (pc := 52) C dX8_tightLines_52 4 rfl ?_
          refine a_iald (pc := 53) C dX8_tightLines_53 tm_3 hf (fun hf => ?_)
          refine a_goto (pc := 54) 63 C dX8_tightLines_54 (by decide) ?_
          exact a_sub [1, 2, 3, 4, 0] rfl (hk63 (M.1 3 a4.2.toNatClampNeg) hf)
    · refine a_icmp_ne (pc := 18) 30 C dX8_tightLines_18 (by decide) hf (fun hf => ?_) (fun hf => ?_)
      · refine a_aload_n (pc := 30) C dX8_tightLines_30 0 rfl ?_
        refine a_getR (pc := 31) C dX8_tightLines_31 fl_X8_20 tm_0 rfl ?_
        refine a_iload_n (pc := 34) C dX8_tightLines_34 3 rfl ?_
        refine a_iald (pc := 35) C dX8_tightLines_35 tm_3 hf (fun hf => ?_)
        exact a_sub [0, 1, 2, 3] rfl (hk36 (M.1 3 a4.2.toNatClampNeg) hf)
      · refine a_aload_n (pc := 21) C dX8_tightLines_21 0 rfl ?_
        refine a_getR (pc := 22) C dX8_tightLines_22 fl_X8_23 tm_0 rfl ?_
        refine a_iload_n (pc := 25) C dX8_tightLines_25 3 rfl ?_
        refine a_iald (pc := 26) C dX8_tightLines_26 tm_4 hf (fun hf => ?_)
        refine a_goto (pc := 27) 36 C dX8_tightLines_27 (by decide) ?_
        exact a_sub [0, 1, 2, 3] rfl (hk36 (M.1 4 a4.2.toNatClampNeg) hf)
theorem dX8_fraction_0 : decode cX8_fraction 0 = .ok (.iload_n 1, 1) := by decide +kernel
theorem dX8_fraction_1 : decode cX8_fraction 1 = .ok (.invokestatic 271, 3) := by decide +kernel
theorem dX8_fraction_4 : decode cX8_fraction 4 = .ok (.ifCond .eq 14, 3) := by decide +kernel
theorem dX8_fraction_7 : decode cX8_fraction 7 = .ok (.aload_n 0, 1) := by decide +kernel
theorem dX8_fraction_8 : decode cX8_fraction 8 = .ok (.iload_n 1, 1) := by decide +kernel
theorem dX8_fraction_9 : decode cX8_fraction 9 = .ok (.lload_n 2, 1) := by decide +kernel
theorem dX8_fraction_10 : decode cX8_fraction 10 = .ok (.lload 4, 2) := by decide +kernel
theorem dX8_fraction_12 : decode cX8_fraction 12 = .ok (.invokevirtual 274, 3) := by decide +kernel
theorem dX8_fraction_15 : decode cX8_fraction 15 = .ok (.goto 5, 3) := by decide +kernel
theorem dX8_fraction_18 : decode cX8_fraction 18 = .ok (.bipush (-2), 2) := by decide +kernel
theorem dX8_fraction_20 : decode cX8_fraction 20 = .ok (.ireturn, 1) := by decide +kernel
def f_X8_fraction (N : Nat) (x1 : Int32) (x2 : Int64) (x4 : Int64) (M : Mem) : Option (Int32 × Mem) := bd (f_X8_isHold N x1 M) (fun v1 => if v1 = 0 then (some ((-2 : Int32), M)) else (bd (f_X8_gets N x1 x2 x4 M) (fun w5 => some (w5.1, w5.2))))
set_option maxRecDepth 100000 in
set_option maxHeartbeats 4000000 in
theorem c_X8_fraction {l : Launch} {D : va_G} {ac : Nat → ClassId} {A : Nat → Prop} {ad : Nat → Nat} {rest : va_W} (N : Nat) (x1 : Int32) (x2 : Int64) (x4 : Int64)  (M : Mem) (r0 : Int32) (M0 : Mem) (hf : f_X8_fraction N x1 x2 x4 M = some (r0, M0)) : CtI l D ac A tabM ad rest yX8_fraction cX8_fraction 6 .int 3 [.ref (ad 0), .int x1, .long x2, .long x4] M r0 M0 := by
  refine ct_ofI (own := RX8) (by decide +kernel) rfl (Nat.le_of_ble_eq_true rfl) ?_
  intro p e s m args below meth c C
  unfold f_X8_fraction at hf
  refine a_L (L' := [(0, .ref (ad 0)), (1, .int x1), (2, .long x2), (4, .long x4)]) rfl ?_
  refine a_iload_n (pc := 0) C dX8_fraction_0 1 rfl ?_
  refine a_callS_Ir (pc := 1) (d' := 2) C dX8_fraction_1 ml_X8_271 mc_X8_isHold ms_X8_isHold [.int x1] rfl (Nat.le_of_ble_eq_true rfl) (Nat.le_of_ble_eq_true rfl) rfl (Nat.le_of_ble_eq_true rfl) (fun r h => c_X8_isHold N x1  _  r h) hf (fun v1 hf => ?_)
  refine a_if_eq (pc := 4) 18 C dX8_fraction_4 (by decide) hf (fun hf => ?_) (fun hf => ?_)
  · refine a_bipush (pc := 18) (v := (-2)) C dX8_fraction_18 (by decide) ?_
    exact a_iret (pc := 20) C dX8_fraction_20 (so_1 hf) (so_2 hf)
  · refine a_aload_n (pc := 7) C dX8_fraction_7 0 rfl ?_
    refine a_iload_n (pc := 8) C dX8_fraction_8 1 rfl ?_
    refine a_lload_n (pc := 9) C dX8_fraction_9 2 rfl ?_
    refine a_lload (pc := 10) C dX8_fraction_10 3 rfl ?_
    refine a_callV_I (pc := 12) (d' := 1) C dX8_fraction_12 ml_X8_274 mc_X8_gets mv_X8_gets tm_0 rfl [.int x1, .long x2, .long x4] rfl (Nat.le_of_ble_eq_true rfl) (Nat.le_of_ble_eq_true rfl) rfl (Nat.le_of_ble_eq_true rfl) (fun r M' h => c_X8_gets N x1 x2 x4  _  r M' h) hf (fun v3 M4 hf => ?_)
    refine a_goto (pc := 15) 20 C dX8_fraction_15 (by decide) ?_
    exact a_iret (pc := 20) C dX8_fraction_20 (so_1 hf) (so_2 hf)
