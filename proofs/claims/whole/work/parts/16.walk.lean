theorem dX7_change_0 : decode cX7_change 0 = .ok (.aload_n 0, 1) := by decide +kernel
theorem dX7_change_1 : decode cX7_change 1 = .ok (.getfield 12, 3) := by decide +kernel
theorem dX7_change_4 : decode cX7_change 4 = .ok (.iload_n 1, 1) := by decide +kernel
theorem dX7_change_5 : decode cX7_change 5 = .ok (.invokevirtual 100, 3) := by decide +kernel
theorem dX7_change_8 : decode cX7_change 8 = .ok (.ifCond .ne 6, 3) := by decide +kernel
theorem dX7_change_11 : decode cX7_change 11 = .ok (.bipush (-2), 2) := by decide +kernel
theorem dX7_change_13 : decode cX7_change 13 = .ok (.ireturn, 1) := by decide +kernel
theorem dX7_change_14 : decode cX7_change 14 = .ok (.bipush (-2), 2) := by decide +kernel
theorem dX7_change_16 : decode cX7_change 16 = .ok (.istore 4, 2) := by decide +kernel
theorem dX7_change_18 : decode cX7_change 18 = .ok (.iload_n 2, 1) := by decide +kernel
theorem dX7_change_19 : decode cX7_change 19 = .ok (.ifCond .ne 34, 3) := by decide +kernel
theorem dX7_change_22 : decode cX7_change 22 = .ok (.iload_n 3, 1) := by decide +kernel
theorem dX7_change_23 : decode cX7_change 23 = .ok (.invokestatic 76, 3) := by decide +kernel
theorem dX7_change_26 : decode cX7_change 26 = .ok (.ifCond .eq 27, 3) := by decide +kernel
theorem dX7_change_29 : decode cX7_change 29 = .ok (.aload_n 0, 1) := by decide +kernel
theorem dX7_change_30 : decode cX7_change 30 = .ok (.getfield 12, 3) := by decide +kernel
theorem dX7_change_33 : decode cX7_change 33 = .ok (.getfield 103, 3) := by decide +kernel
theorem dX7_change_36 : decode cX7_change 36 = .ok (.iload_n 1, 1) := by decide +kernel
theorem dX7_change_37 : decode cX7_change 37 = .ok (.iaload, 1) := by decide +kernel
theorem dX7_change_38 : decode cX7_change 38 = .ok (.istore 4, 2) := by decide +kernel
theorem dX7_change_40 : decode cX7_change 40 = .ok (.aload_n 0, 1) := by decide +kernel
theorem dX7_change_41 : decode cX7_change 41 = .ok (.getfield 12, 3) := by decide +kernel
theorem dX7_change_44 : decode cX7_change 44 = .ok (.getfield 103, 3) := by decide +kernel
theorem dX7_change_47 : decode cX7_change 47 = .ok (.iload_n 1, 1) := by decide +kernel
theorem dX7_change_48 : decode cX7_change 48 = .ok (.iload_n 3, 1) := by decide +kernel
theorem dX7_change_49 : decode cX7_change 49 = .ok (.iastore, 1) := by decide +kernel
theorem dX7_change_50 : decode cX7_change 50 = .ok (.goto 36, 3) := by decide +kernel
theorem dX7_change_53 : decode cX7_change 53 = .ok (.iload_n 2, 1) := by decide +kernel
theorem dX7_change_54 : decode cX7_change 54 = .ok (.iconst 1, 1) := by decide +kernel
theorem dX7_change_55 : decode cX7_change 55 = .ok (.if_icmp .ne 31, 3) := by decide +kernel
theorem dX7_change_58 : decode cX7_change 58 = .ok (.iload_n 3, 1) := by decide +kernel
theorem dX7_change_59 : decode cX7_change 59 = .ok (.invokestatic 80, 3) := by decide +kernel
theorem dX7_change_62 : decode cX7_change 62 = .ok (.ifCond .eq 24, 3) := by decide +kernel
theorem dX7_change_65 : decode cX7_change 65 = .ok (.aload_n 0, 1) := by decide +kernel
theorem dX7_change_66 : decode cX7_change 66 = .ok (.getfield 12, 3) := by decide +kernel
theorem dX7_change_69 : decode cX7_change 69 = .ok (.getfield 107, 3) := by decide +kernel
theorem dX7_change_72 : decode cX7_change 72 = .ok (.iload_n 1, 1) := by decide +kernel
theorem dX7_change_73 : decode cX7_change 73 = .ok (.iaload, 1) := by decide +kernel
theorem dX7_change_74 : decode cX7_change 74 = .ok (.istore 4, 2) := by decide +kernel
theorem dX7_change_76 : decode cX7_change 76 = .ok (.aload_n 0, 1) := by decide +kernel
theorem dX7_change_77 : decode cX7_change 77 = .ok (.getfield 12, 3) := by decide +kernel
theorem dX7_change_80 : decode cX7_change 80 = .ok (.getfield 107, 3) := by decide +kernel
theorem dX7_change_83 : decode cX7_change 83 = .ok (.iload_n 1, 1) := by decide +kernel
theorem dX7_change_84 : decode cX7_change 84 = .ok (.iload_n 3, 1) := by decide +kernel
theorem dX7_change_85 : decode cX7_change 85 = .ok (.iastore, 1) := by decide +kernel
theorem dX7_change_86 : decode cX7_change 86 = .ok (.iload 4, 2) := by decide +kernel
theorem dX7_change_88 : decode cX7_change 88 = .ok (.bipush (-2), 2) := by decide +kernel
theorem dX7_change_90 : decode cX7_change 90 = .ok (.if_icmp .eq 10, 3) := by decide +kernel
theorem dX7_change_93 : decode cX7_change 93 = .ok (.aload_n 0, 1) := by decide +kernel
theorem dX7_change_94 : decode cX7_change 94 = .ok (.getfield 25, 3) := by decide +kernel
theorem dX7_change_97 : decode cX7_change 97 = .ok (.invokevirtual 93, 3) := by decide +kernel
theorem dX7_change_100 : decode cX7_change 100 = .ok (.iload 4, 2) := by decide +kernel
theorem dX7_change_102 : decode cX7_change 102 = .ok (.ireturn, 1) := by decide +kernel
def f_X7_change (N : Nat) (x1 : Int32) (x2 : Int32) (x3 : Int32) (M : Mem) : Option (Int32 × Mem) := bd (f_X1_hasLine N 1 x1 M) (fun v1 => if v1 = 0 then (some ((-2 : Int32), M)) else (jn (fun (a86 : Int32 × Mem) => if a86.1 = (-2 : Int32) then (some (a86.1, a86.2)) else (bd (f_X4_forget N  a86.2) (fun M4 => some (a86.1, M4)))) (fun (k86 : (Int32 × Mem) → Option (Int32 × Mem)) => jn (fun (a53 : Unit) => if x2 = (1 : Int32) then (bd (f_X7_isFigure N x3 M) (fun v5 => if v5 = 0 then (k86 ((-2 : Int32), M)) else (ck (inb x1 10) (nm (M.1 3 x1.toNatClampNeg) (fun v7 => ck (inb x1 10) (nm (setI M 3 x1.toNatClampNeg x3) (fun M8 => k86 (v7, M8)))))))) else (k86 ((-2 : Int32), M))) (fun (k53 : Unit → Option (Int32 × Mem)) => if x2 = 0 then (bd (f_X7_isKind N x3 M) (fun v9 => if v9 = 0 then (k53 ()) else (ck (inb x1 10) (nm (M.1 2 x1.toNatClampNeg) (fun v11 => ck (inb x1 10) (nm (setI M 2 x1.toNatClampNeg x3) (fun M12 => k86 (v11, M12)))))))) else (k53 ())))))
set_option maxRecDepth 100000 in
set_option maxHeartbeats 4000000 in
theorem c_X7_change {l : Launch} {D : va_G} {ac : Nat → ClassId} {A : Nat → Prop} {ad : Nat → Nat} {rest : va_W} (N : Nat) (x1 : Int32) (x2 : Int32) (x3 : Int32)  (M : Mem) (r0 : Int32) (M0 : Mem) (hf : f_X7_change N x1 x2 x3 M = some (r0, M0)) : CtI l D ac A tabX ad rest yX7_change cX7_change 5 .int 3 [.ref (ad 0), .int x1, .int x2, .int x3] M r0 M0 := by
  refine ct_ofI (own := RX7) (by decide +kernel) rfl (Nat.le_of_ble_eq_true rfl) ?_
  intro p e s m args below meth c C
  unfold f_X7_change at hf
  refine a_L (L' := [(0, .ref (ad 0)), (1, .int x1), (2, .int x2), (3, .int x3)]) rfl ?_
  refine a_aload_n (pc := 0) C dX7_change_0 0 rfl ?_
  refine a_getR (pc := 1) C dX7_change_1 fl_X7_12 tx_0 rfl ?_
  refine a_iload_n (pc := 4) C dX7_change_4 1 rfl ?_
  refine a_callV_Ir (pc := 5) (d' := 1) C dX7_change_5 ml_X7_100 mc_X1_hasLine mv_X1_hasLine net_1.1 rfl [.int x1] rfl (Nat.le_of_ble_eq_true rfl) (Nat.le_of_ble_eq_true rfl) rfl (Nat.le_of_ble_eq_true rfl) (fun r h => c_X1_hasLine N 1 x1 net_1 _  r h) hf (fun v1 hf => ?_)
  refine a_if_ne (pc := 8) 14 C dX7_change_8 (by decide) hf (fun hf => ?_) (fun hf => ?_)
  · refine a_bipush (pc := 14) (v := (-2)) C dX7_change_14 (by decide) ?_
    refine a_istore (pc := 16) [(4, .int (-2 : Int32)), (0, .ref (ad 0)), (1, .int x1), (2, .int x2), (3, .int x3)] C dX7_change_16 (by decide) rfl ?_
    refine a_iload_n (pc := 18) C dX7_change_18 3 rfl ?_
    refine a_jn 86 (fun a86 : Int32 × Mem => [(0, .ref (ad 0)), (4, .int a86.1)]) (fun a86 : Int32 × Mem => []) (fun a86 : Int32 × Mem => a86.2) hf (fun a86 hf => ?_) (fun k86 hk86 hf => ?_)
    · refine a_iload (pc := 86) C dX7_change_86 1 rfl ?_
      refine a_bipush (pc := 88) (v := (-2)) C dX7_change_88 (by decide) ?_
      refine a_icmp_eq (pc := 90) 100 C dX7_change_90 (by decide) hf (fun hf => ?_) (fun hf => ?_)
      · refine a_iload (pc := 100) C dX7_change_100 1 rfl ?_
        exact a_iret (pc := 102) C dX7_change_102 (so_1 hf) (so_2 hf)
      · refine a_aload_n (pc := 93) C dX7_change_93 0 rfl ?_
        refine a_getR (pc := 94) C dX7_change_94 fl_X7_25 tx_0 rfl ?_
        refine a_callV_V (pc := 97) (d' := 1) C dX7_change_97 ml_X7_93 mc_X4_forget mv_X4_forget tx_19 rfl [] rfl (Nat.le_of_ble_eq_true rfl) (Nat.le_of_ble_eq_true rfl) rfl (Nat.le_of_ble_eq_true rfl) (fun M' h => c_X4_forget N   _  M' h) hf (fun M4 hf => ?_)
        refine a_iload (pc := 100) C dX7_change_100 1 rfl ?_
        exact a_iret (pc := 102) C dX7_change_102 (so_1 hf) (so_2 hf)
    · refine a_jn 53 (fun a53 : Unit => [(0, .ref (ad 0)), (1, .int x1), (2, .int x2), (3, .int x3), (4, .int (-2 : Int32))]) (fun a53 : Unit => []) (fun a53 : Unit => M) hf (fun a53 hf => ?_) (fun k53 hk53 hf => ?_)
      · refine a_iload_n (pc := 53) C dX7_change_53 2 rfl ?_
        refine a_iconst (pc := 54) (v := 1) C dX7_change_54 (by decide) ?_
        refine a_icmp_ne (pc := 55) 86 C dX7_change_55 (by decide) hf (fun hf => ?_) (fun hf => ?_)
        · exact a_sub [0, 4] rfl (hk86 ((-2 : Int32), M) hf)
        · refine a_iload_n (pc := 58) C dX7_change_58 3 rfl ?_
          refine a_callS_Ir (pc := 59) (d' := 2) C dX7_change_59 ml_X7_80 mc_X7_isFigure ms_X7_isFigure [.int x3] rfl (Nat.le_of_ble_eq_true rfl) (Nat.le_of_ble_eq_true rfl) rfl (Nat.le_of_ble_eq_true rfl) (fun r h => c_X7_isFigure N x3  _  r h) hf (fun v5 hf => ?_)
          refine a_if_eq (pc := 62) 86 C dX7_change_62 (by decide) hf (fun hf => ?_) (fun hf => ?_)
          · exact a_sub [0, 4] rfl (hk86 ((-2 : Int32), M) hf)
          · refine a_aload_n (pc := 65) C dX7_change_65 0 rfl ?_
            refine a_getR (pc := 66) C dX7_change_66 fl_X7_12 tx_0 rfl ?_
            refine a_getR (pc := 69) C dX7_change_69 fl_X7_107 net_1.1 rfl ?_
            refine a_iload_n (pc := 72) C dX7_change_72 1 rfl ?_
            refine a_iald (pc := 73) C dX7_change_73 net_1.2.2.1 hf (fun hf => ?_)
            refine a_nmi hf (fun v7 hf => ?_)
            refine a_istore (pc := 74) [(4, .int v7), (0, .ref (ad 0)), (1, .int x1), (2, .int x2), (3, .int x3)] C dX7_change_74 (by decide) rfl ?_
            refine a_aload_n (pc := 76) C dX7_change_76 1 rfl ?_
            refine a_getR (pc := 77) C dX7_change_77 fl_X7_12 tx_0 rfl ?_
            refine a_getR (pc := 80) C dX7_change_80 fl_X7_107 net_1.1 rfl ?_
            refine a_iload_n (pc := 83) C dX7_change_83 2 rfl ?_
            refine a_iload_n (pc := 84) C dX7_change_84 4 rfl ?_
            refine a_iast (pc := 85) C dX7_change_85 net_1.2.2.1 hf (fun M8 hf => ?_)
            exact a_sub [1, 0] rfl (hk86 (v7, M8) hf)
      · refine a_if_ne (pc := 19) 53 C dX7_change_19 (by decide) hf (fun hf => ?_) (fun hf => ?_)
        · exact a_sub [1, 2, 3, 4, 0] rfl (hk53 () hf)
        · refine a_iload_n (pc := 22) C dX7_change_22 4 rfl ?_
          refine a_callS_Ir (pc := 23) (d' := 2) C dX7_change_23 ml_X7_76 mc_X7_isKind ms_X7_isKind [.int x3] rfl (Nat.le_of_ble_eq_true rfl) (Nat.le_of_ble_eq_true rfl) rfl (Nat.le_of_ble_eq_true rfl) (fun r h => c_X7_isKind N x3  _  r h) hf (fun v9 hf => ?_)
          refine a_if_eq (pc := 26) 53 C dX7_change_26 (by decide) hf (fun hf => ?_) (fun hf => ?_)
          · exact a_sub [1, 2, 3, 4, 0] rfl (hk53 () hf)
          · refine a_aload_n (pc := 29) C dX7_change_29 1 rfl ?_
            refine a_getR (pc := 30) C dX7_change_30 fl_X7_12 tx_0 rfl ?_
            refine a_getR (pc := 33) C dX7_change_33 fl_X7_103 net_1.1 rfl ?_
            refine a_iload_n (pc := 36) C dX7_change_36 2 rfl ?_
            refine a_iald (pc := 37) C dX7_change_37 net_1.2.1 hf (fun hf => ?_)
            refine a_nmi hf (fun v11 hf => ?_)
            refine a_istore (pc := 38) [(4, .int v11), (0, .ref (ad 0)), (1, .int x1), (2, .int x2), (3, .int x3)] C dX7_change_38 (by decide) rfl ?_
            refine a_aload_n (pc := 40) C dX7_change_40 1 rfl ?_
            refine a_getR (pc := 41) C dX7_change_41 fl_X7_12 tx_0 rfl ?_
            refine a_getR (pc := 44) C dX7_change_44 fl_X7_103 net_1.1 rfl ?_
            refine a_iload_n (pc := 47) C dX7_change_47 2 rfl ?_
            refine a_iload_n (pc := 48) C dX7_change_48 4 rfl ?_
            refine a_iast (pc := 49) C dX7_change_49 net_1.2.1 hf (fun M12 hf => ?_)
            refine a_goto (pc := 50) 86 C dX7_change_50 (by decide) ?_
            exact a_sub [1, 0] rfl (hk86 (v11, M12) hf)
  · refine a_bipush (pc := 11) (v := (-2)) C dX7_change_11 (by decide) ?_
    exact a_iret (pc := 13) C dX7_change_13 (so_1 hf) (so_2 hf)
theorem dX7_next_0 : decode cX7_next 0 = .ok (.iload_n 1, 1) := by decide +kernel
theorem dX7_next_1 : decode cX7_next 1 = .ok (.iconst 0, 1) := by decide +kernel
theorem dX7_next_2 : decode cX7_next 2 = .ok (.sipush 9999, 3) := by decide +kernel
theorem dX7_next_5 : decode cX7_next 5 = .ok (.invokestatic 64, 3) := by decide +kernel
theorem dX7_next_8 : decode cX7_next 8 = .ok (.ifCond .eq 25, 3) := by decide +kernel
theorem dX7_next_11 : decode cX7_next 11 = .ok (.iload_n 2, 1) := by decide +kernel
theorem dX7_next_12 : decode cX7_next 12 = .ok (.iconst 1, 1) := by decide +kernel
theorem dX7_next_13 : decode cX7_next 13 = .ok (.sipush 9999, 3) := by decide +kernel
theorem dX7_next_16 : decode cX7_next 16 = .ok (.invokestatic 64, 3) := by decide +kernel
theorem dX7_next_19 : decode cX7_next 19 = .ok (.ifCond .eq 14, 3) := by decide +kernel
theorem dX7_next_22 : decode cX7_next 22 = .ok (.iload_n 3, 1) := by decide +kernel
theorem dX7_next_23 : decode cX7_next 23 = .ok (.iconst 1, 1) := by decide +kernel
theorem dX7_next_24 : decode cX7_next 24 = .ok (.sipush 9999, 3) := by decide +kernel
theorem dX7_next_27 : decode cX7_next 27 = .ok (.invokestatic 64, 3) := by decide +kernel
theorem dX7_next_30 : decode cX7_next 30 = .ok (.ifCond .ne 6, 3) := by decide +kernel
theorem dX7_next_33 : decode cX7_next 33 = .ok (.bipush (-2), 2) := by decide +kernel
theorem dX7_next_35 : decode cX7_next 35 = .ok (.ireturn, 1) := by decide +kernel
theorem dX7_next_36 : decode cX7_next 36 = .ok (.iload 4, 2) := by decide +kernel
theorem dX7_next_38 : decode cX7_next 38 = .ok (.iconst 0, 1) := by decide +kernel
theorem dX7_next_39 : decode cX7_next 39 = .ok (.iconst 1, 1) := by decide +kernel
theorem dX7_next_40 : decode cX7_next 40 = .ok (.invokestatic 64, 3) := by decide +kernel
theorem dX7_next_43 : decode cX7_next 43 = .ok (.ifCond .eq 13, 3) := by decide +kernel
theorem dX7_next_46 : decode cX7_next 46 = .ok (.iload 5, 2) := by decide +kernel
theorem dX7_next_48 : decode cX7_next 48 = .ok (.iconst 0, 1) := by decide +kernel
theorem dX7_next_49 : decode cX7_next 49 = .ok (.iconst 1, 1) := by decide +kernel
theorem dX7_next_50 : decode cX7_next 50 = .ok (.invokestatic 64, 3) := by decide +kernel
theorem dX7_next_53 : decode cX7_next 53 = .ok (.ifCond .ne 6, 3) := by decide +kernel
theorem dX7_next_56 : decode cX7_next 56 = .ok (.bipush (-2), 2) := by decide +kernel
theorem dX7_next_58 : decode cX7_next 58 = .ok (.ireturn, 1) := by decide +kernel
theorem dX7_next_59 : decode cX7_next 59 = .ok (.iload 4, 2) := by decide +kernel
theorem dX7_next_61 : decode cX7_next 61 = .ok (.ifCond .ne 9, 3) := by decide +kernel
theorem dX7_next_64 : decode cX7_next 64 = .ok (.iload_n 1, 1) := by decide +kernel
theorem dX7_next_65 : decode cX7_next 65 = .ok (.ifCond .ne 5, 3) := by decide +kernel
theorem dX7_next_68 : decode cX7_next 68 = .ok (.iconst (-1), 1) := by decide +kernel
theorem dX7_next_69 : decode cX7_next 69 = .ok (.ireturn, 1) := by decide +kernel
theorem dX7_next_70 : decode cX7_next 70 = .ok (.iload_n 3, 1) := by decide +kernel
theorem dX7_next_71 : decode cX7_next 71 = .ok (.i2l, 1) := by decide +kernel
theorem dX7_next_72 : decode cX7_next 72 = .ok (.lconst 1, 1) := by decide +kernel
theorem dX7_next_73 : decode cX7_next 73 = .ok (.ladd, 1) := by decide +kernel
theorem dX7_next_74 : decode cX7_next 74 = .ok (.lstore 6, 2) := by decide +kernel
theorem dX7_next_76 : decode cX7_next 76 = .ok (.iload_n 1, 1) := by decide +kernel
theorem dX7_next_77 : decode cX7_next 77 = .ok (.i2l, 1) := by decide +kernel
theorem dX7_next_78 : decode cX7_next 78 = .ok (.lload 6, 2) := by decide +kernel
theorem dX7_next_80 : decode cX7_next 80 = .ok (.lmul, 1) := by decide +kernel
theorem dX7_next_81 : decode cX7_next 81 = .ok (.iload 4, 2) := by decide +kernel
theorem dX7_next_83 : decode cX7_next 83 = .ok (.ifCond .ne 7, 3) := by decide +kernel
theorem dX7_next_86 : decode cX7_next 86 = .ok (.iconst (-1), 1) := by decide +kernel
theorem dX7_next_87 : decode cX7_next 87 = .ok (.goto 4, 3) := by decide +kernel
theorem dX7_next_90 : decode cX7_next 90 = .ok (.iconst 1, 1) := by decide +kernel
theorem dX7_next_91 : decode cX7_next 91 = .ok (.i2l, 1) := by decide +kernel
theorem dX7_next_92 : decode cX7_next 92 = .ok (.ladd, 1) := by decide +kernel
theorem dX7_next_93 : decode cX7_next 93 = .ok (.lstore 8, 2) := by decide +kernel
theorem dX7_next_95 : decode cX7_next 95 = .ok (.lload 8, 2) := by decide +kernel
theorem dX7_next_97 : decode cX7_next 97 = .ok (.iload_n 2, 1) := by decide +kernel
theorem dX7_next_98 : decode cX7_next 98 = .ok (.i2l, 1) := by decide +kernel
theorem dX7_next_99 : decode cX7_next 99 = .ok (.lload 6, 2) := by decide +kernel
theorem dX7_next_101 : decode cX7_next 101 = .ok (.lmul, 1) := by decide +kernel
theorem dX7_next_102 : decode cX7_next 102 = .ok (.iload_n 3, 1) := by decide +kernel
theorem dX7_next_103 : decode cX7_next 103 = .ok (.iload 4, 2) := by decide +kernel
theorem dX7_next_105 : decode cX7_next 105 = .ok (.iload 5, 2) := by decide +kernel
theorem dX7_next_107 : decode cX7_next 107 = .ok (.invokestatic 253, 3) := by decide +kernel
theorem dX7_next_110 : decode cX7_next 110 = .ok (.ireturn, 1) := by decide +kernel
def f_X7_next (N : Nat) (x1 : Int32) (x2 : Int32) (x3 : Int32) (x4 : Int32) (x5 : Int32) (M : Mem) : Option (Int32) := bd (f_X7_within N x1 (0 : Int32) (9999 : Int32) M) (fun v1 => if v1 = 0 then (some (-2 : Int32)) else (bd (f_X7_within N x2 (1 : Int32) (9999 : Int32) M) (fun v3 => if v3 = 0 then (some (-2 : Int32)) else (bd (f_X7_within N x3 (1 : Int32) (9999 : Int32) M) (fun v5 => if v5 = 0 then (some (-2 : Int32)) else (bd (f_X7_within N x4 (0 : Int32) (1 : Int32) M) (fun v7 => if v7 = 0 then (some (-2 : Int32)) else (bd (f_X7_within N x5 (0 : Int32) (1 : Int32) M) (fun v9 => if v9 = 0 then (some (-2 : Int32)) else (jn (fun (a70 : Unit) => nm (x3.toInt64 + (1 : Int64)) (fun v11 => jn (fun (a91 : Int32) => nm ((x1.toInt64 * v11) + a91.toInt64) (fun v12 => bd (f_X7_neighbour N v12 (x2.toInt64 * v11) x3 x4 x5 M) (fun v13 => some v13))) (fun (k91 : Int32 → Option (Int32)) => if x4 = 0 then (k91 (-1 : Int32)) else (k91 (1 : Int32))))) (fun (k70 : Unit → Option (Int32)) => if x4 = 0 then (if x1 = 0 then (some (-1 : Int32)) else (k70 ())) else (k70 ()))))))))))))
set_option maxRecDepth 100000 in
set_option maxHeartbeats 4000000 in
theorem c_X7_next {l : Launch} {D : va_G} {ac : Nat → ClassId} {A : Nat → Prop} {ad : Nat → Nat} {rest : va_W} (N : Nat) (x1 : Int32) (x2 : Int32) (x3 : Int32) (x4 : Int32) (x5 : Int32)  (M : Mem) (r0 : Int32) (hf : f_X7_next N x1 x2 x3 x4 x5 M = some r0) : CtI l D ac A tabX ad rest yX7_next cX7_next 10 .int 3 [.ref (ad 0), .int x1, .int x2, .int x3, .int x4, .int x5] M r0 M := by
  refine ct_ofI (own := RX7) (by decide +kernel) rfl (Nat.le_of_ble_eq_true rfl) ?_
  intro p e s m args below meth c C
  unfold f_X7_next at hf
  refine a_L (L' := [(0, .ref (ad 0)), (1, .int x1), (2, .int x2), (3, .int x3), (4, .int x4), (5, .int x5)]) rfl ?_
  refine a_iload_n (pc := 0) C dX7_next_0 1 rfl ?_
  refine a_iconst (pc := 1) (v := 0) C dX7_next_1 (by decide) ?_
  refine a_sipush (pc := 2) (v := 9999) C dX7_next_2 (by decide) ?_
  refine a_callS_Ir (pc := 5) (d' := 1) C dX7_next_5 ml_X7_64 mc_X7_within ms_X7_within [.int x1, .int (0 : Int32), .int (9999 : Int32)] rfl (Nat.le_of_ble_eq_true rfl) (Nat.le_of_ble_eq_true rfl) rfl (Nat.le_of_ble_eq_true rfl) (fun r h => c_X7_within N x1 (0 : Int32) (9999 : Int32)  _  r h) hf (fun v1 hf => ?_)
  refine a_if_eq (pc := 8) 33 C dX7_next_8 (by decide) hf (fun hf => ?_) (fun hf => ?_)
  · refine a_bipush (pc := 33) (v := (-2)) C dX7_next_33 (by decide) ?_
    exact a_iret (pc := 35) C dX7_next_35 (Option.some.inj hf) rfl
  · refine a_iload_n (pc := 11) C dX7_next_11 2 rfl ?_
    refine a_iconst (pc := 12) (v := 1) C dX7_next_12 (by decide) ?_
    refine a_sipush (pc := 13) (v := 9999) C dX7_next_13 (by decide) ?_
    refine a_callS_Ir (pc := 16) (d' := 1) C dX7_next_16 ml_X7_64 mc_X7_within ms_X7_within [.int x2, .int (1 : Int32), .int (9999 : Int32)] rfl (Nat.le_of_ble_eq_true rfl) (Nat.le_of_ble_eq_true rfl) rfl (Nat.le_of_ble_eq_true rfl) (fun r h => c_X7_within N x2 (1 : Int32) (9999 : Int32)  _  r h) hf (fun v3 hf => ?_)
    refine a_if_eq (pc := 19) 33 C dX7_next_19 (by decide) hf (fun hf => ?_) (fun hf => ?_)
    · refine a_bipush (pc := 33) (v := (-2)) C dX7_next_33 (by decide) ?_
      exact a_iret (pc := 35) C dX7_next_35 (Option.some.inj hf) rfl
    · refine a_iload_n (pc := 22) C dX7_next_22 3 rfl ?_
      refine a_iconst (pc := 23) (v := 1) C dX7_next_23 (by decide) ?_
      refine a_sipush (pc := 24) (v := 9999) C dX7_next_24 (by decide) ?_
      refine a_callS_Ir (pc := 27) (d' := 1) C dX7_next_27 ml_X7_64 mc_X7_within ms_X7_within [.int x3, .int (1 : Int32), .int (9999 : Int32)] rfl (Nat.le_of_ble_eq_true rfl) (Nat.le_of_ble_eq_true rfl) rfl (Nat.le_of_ble_eq_true rfl) (fun r h => c_X7_within N x3 (1 : Int32) (9999 : Int32)  _  r h) hf (fun v5 hf => ?_)
      refine a_if_ne (pc := 30) 36 C dX7_next_30 (by decide) hf (fun hf => ?_) (fun hf => ?_)
      · refine a_iload (pc := 36) C dX7_next_36 4 rfl ?_
        refine a_iconst (pc := 38) (v := 0) C dX7_next_38 (by decide) ?_
        refine a_iconst (pc := 39) (v := 1) C dX7_next_39 (by decide) ?_
        refine a_callS_Ir (pc := 40) (d' := 1) C dX7_next_40 ml_X7_64 mc_X7_within ms_X7_within [.int x4, .int (0 : Int32), .int (1 : Int32)] rfl (Nat.le_of_ble_eq_true rfl) (Nat.le_of_ble_eq_true rfl) rfl (Nat.le_of_ble_eq_true rfl) (fun r h => c_X7_within N x4 (0 : Int32) (1 : Int32)  _  r h) hf (fun v7 hf => ?_)
        refine a_if_eq (pc := 43) 56 C dX7_next_43 (by decide) hf (fun hf => ?_) (fun hf => ?_)
        · refine a_bipush (pc := 56) (v := (-2)) C dX7_next_56 (by decide) ?_
          exact a_iret (pc := 58) C dX7_next_58 (Option.some.inj hf) rfl
        · refine a_iload (pc := 46) C dX7_next_46 5 rfl ?_
          refine a_iconst (pc := 48) (v := 0) C dX7_next_48 (by decide) ?_
          refine a_iconst (pc := 49) (v := 1) C dX7_next_49 (by decide) ?_
          refine a_callS_Ir (pc := 50) (d' := 1) C dX7_next_50 ml_X7_64 mc_X7_within ms_X7_within [.int x5, .int (0 : Int32), .int (1 : Int32)] rfl (Nat.le_of_ble_eq_true rfl) (Nat.le_of_ble_eq_true rfl) rfl (Nat.le_of_ble_eq_true rfl) (fun r h => c_X7_within N x5 (0 : Int32) (1 : Int32)  _  r h) hf (fun v9 hf => ?_)
          refine a_if_ne (pc := 53) 59 C dX7_next_53 (by decide) hf (fun hf => ?_) (fun hf => ?_)
          · refine a_iload (pc := 59) C dX7_next_59 4 rfl ?_
            refine a_jn 70 (fun a70 : Unit => [(1, .int x1), (2, .int x2), (3, .int x3), (4, .int x4), (5, .int x5)]) (fun a70 : Unit => []) (fun a70 : Unit => M) hf (fun a70 hf => ?_) (fun k70 hk70 hf => ?_)
            · refine a_iload_n (pc := 70) C dX7_next_70 2 rfl ?_
              refine a_i2l (pc := 71) C dX7_next_71 ?_
              refine a_lconst (pc := 72) (v := 1) C dX7_next_72 (by decide) ?_
              refine a_ladd (pc := 73) C dX7_next_73 ?_
              refine a_nml hf (fun v11 hf => ?_)
              refine a_lstore (pc := 74) [(6, .long v11), (1, .int x1), (2, .int x2), (3, .int x3), (4, .int x4), (5, .int x5)] C dX7_next_74 (by decide) rfl ?_
              refine a_iload_n (pc := 76) C dX7_next_76 1 rfl ?_
              refine a_i2l (pc := 77) C dX7_next_77 ?_
              refine a_lload (pc := 78) C dX7_next_78 0 rfl ?_
              refine a_lmul (pc := 80) C dX7_next_80 ?_
              refine a_iload (pc := 81) C dX7_next_81 4 rfl ?_
              refine a_jn 91 (fun a91 : Int32 => [(2, .int x2), (3, .int x3), (4, .int x4), (5, .int x5), (6, .long v11)]) (fun a91 : Int32 => [.int a91, .long (x1.toInt64 * v11)]) (fun a91 : Int32 => M) hf (fun a91 hf => ?_) (fun k91 hk91 hf => ?_)
              · refine a_i2l (pc := 91) C dX7_next_91 ?_
                refine a_ladd (pc := 92) C dX7_next_92 ?_
                refine a_nml hf (fun v12 hf => ?_)
                refine a_lstore (pc := 93) [(8, .long v12), (2, .int x2), (3, .int x3), (4, .int x4), (5, .int x5), (6, .long v11)] C dX7_next_93 (by decide) rfl ?_
                refine a_lload (pc := 95) C dX7_next_95 0 rfl ?_
                refine a_iload_n (pc := 97) C dX7_next_97 1 rfl ?_
                refine a_i2l (pc := 98) C dX7_next_98 ?_
                refine a_lload (pc := 99) C dX7_next_99 5 rfl ?_
                refine a_lmul (pc := 101) C dX7_next_101 ?_
                refine a_iload_n (pc := 102) C dX7_next_102 2 rfl ?_
                refine a_iload (pc := 103) C dX7_next_103 3 rfl ?_
                refine a_iload (pc := 105) C dX7_next_105 4 rfl ?_
                refine a_callS_Ir (pc := 107) (d' := 2) C dX7_next_107 ml_X7_253 mc_X7_neighbour ms_X7_neighbour [.long v12, .long (x2.toInt64 * v11), .int x3, .int x4, .int x5] rfl (Nat.le_of_ble_eq_true rfl) (Nat.le_of_ble_eq_true rfl) rfl (Nat.le_of_ble_eq_true rfl) (fun r h => c_X7_neighbour N v12 (x2.toInt64 * v11) x3 x4 x5  _  r h) hf (fun v13 hf => ?_)
                exact a_iret (pc := 110) C dX7_next_110 (Option.some.inj hf) rfl
              · refine a_if_ne (pc := 83) 90 C dX7_next_83 (by decide) hf (fun hf => ?_) (fun hf => ?_)
                · refine a_iconst (pc := 90) (v := 1) C dX7_next_90 (by decide) ?_
                  exact a_sub [2, 3, 4, 5, 0] rfl (hk91 (1 : Int32) hf)
                · refine a_iconst (pc := 86) (v := (-1)) C dX7_next_86 (by decide) ?_
                  refine a_goto (pc := 87) 91 C dX7_next_87 (by decide) ?_
                  exact a_sub [2, 3, 4, 5, 0] rfl (hk91 (-1 : Int32) hf)
            · refine a_if_ne (pc := 61) 70 C dX7_next_61 (by decide) hf (fun hf => ?_) (fun hf => ?_)
              · exact a_sub [1, 2, 3, 4, 5] rfl (hk70 () hf)
              · refine a_iload_n (pc := 64) C dX7_next_64 1 rfl ?_
                refine a_if_ne (pc := 65) 70 C dX7_next_65 (by decide) hf (fun hf => ?_) (fun hf => ?_)
                · exact a_sub [1, 2, 3, 4, 5] rfl (hk70 () hf)
                · refine a_iconst (pc := 68) (v := (-1)) C dX7_next_68 (by decide) ?_
                  exact a_iret (pc := 69) C dX7_next_69 (Option.some.inj hf) rfl
          · refine a_bipush (pc := 56) (v := (-2)) C dX7_next_56 (by decide) ?_
            exact a_iret (pc := 58) C dX7_next_58 (Option.some.inj hf) rfl
      · refine a_bipush (pc := 33) (v := (-2)) C dX7_next_33 (by decide) ?_
        exact a_iret (pc := 35) C dX7_next_35 (Option.some.inj hf) rfl
theorem dX7_fraction_0 : decode cX7_fraction 0 = .ok (.iload_n 1, 1) := by decide +kernel
theorem dX7_fraction_1 : decode cX7_fraction 1 = .ok (.invokestatic 257, 3) := by decide +kernel
theorem dX7_fraction_4 : decode cX7_fraction 4 = .ok (.ifCond .ne 6, 3) := by decide +kernel
theorem dX7_fraction_7 : decode cX7_fraction 7 = .ok (.bipush (-2), 2) := by decide +kernel
theorem dX7_fraction_9 : decode cX7_fraction 9 = .ok (.ireturn, 1) := by decide +kernel
theorem dX7_fraction_10 : decode cX7_fraction 10 = .ok (.lload 4, 2) := by decide +kernel
theorem dX7_fraction_12 : decode cX7_fraction 12 = .ok (.lconst 0, 1) := by decide +kernel
theorem dX7_fraction_13 : decode cX7_fraction 13 = .ok (.lcmp, 1) := by decide +kernel
theorem dX7_fraction_14 : decode cX7_fraction 14 = .ok (.ifCond .ne 6, 3) := by decide +kernel
theorem dX7_fraction_17 : decode cX7_fraction 17 = .ok (.bipush (-15), 2) := by decide +kernel
theorem dX7_fraction_19 : decode cX7_fraction 19 = .ok (.ireturn, 1) := by decide +kernel
theorem dX7_fraction_20 : decode cX7_fraction 20 = .ok (.aload_n 0, 1) := by decide +kernel
theorem dX7_fraction_21 : decode cX7_fraction 21 = .ok (.getfield 52, 3) := by decide +kernel
theorem dX7_fraction_24 : decode cX7_fraction 24 = .ok (.iload_n 1, 1) := by decide +kernel
theorem dX7_fraction_25 : decode cX7_fraction 25 = .ok (.aaload, 1) := by decide +kernel
theorem dX7_fraction_26 : decode cX7_fraction 26 = .ok (.lload_n 2, 1) := by decide +kernel
theorem dX7_fraction_27 : decode cX7_fraction 27 = .ok (.lload 4, 2) := by decide +kernel
theorem dX7_fraction_29 : decode cX7_fraction 29 = .ok (.invokevirtual 260, 3) := by decide +kernel
theorem dX7_fraction_32 : decode cX7_fraction 32 = .ok (.ireturn, 1) := by decide +kernel
def f_X7_fraction (N : Nat) (x1 : Int32) (x2 : Int64) (x4 : Int64) (M : Mem) : Option (Int32 × Mem) := bd (f_X7_isHold N x1 M) (fun v1 => if v1 = 0 then (some ((-2 : Int32), M)) else (if (lg_cmp x4 (0 : Int64)) = 0 then (some ((-15 : Int32), M)) else (ck (inb x1 4) (bd (f_X0_takeFraction N (holdC x1.toNatClampNeg) x2 x4 M) (fun w6 => some (w6.1, w6.2))))))
set_option maxRecDepth 100000 in
set_option maxHeartbeats 4000000 in
theorem c_X7_fraction {l : Launch} {D : va_G} {ac : Nat → ClassId} {A : Nat → Prop} {ad : Nat → Nat} {rest : va_W} (N : Nat) (x1 : Int32) (x2 : Int64) (x4 : Int64)  (M : Mem) (r0 : Int32) (M0 : Mem) (hf : f_X7_fraction N x1 x2 x4 M = some (r0, M0)) : CtI l D ac A tabX ad rest yX7_fraction cX7_fraction 6 .int 3 [.ref (ad 0), .int x1, .long x2, .long x4] M r0 M0 := by
  refine ct_ofI (own := RX7) (by decide +kernel) rfl (Nat.le_of_ble_eq_true rfl) ?_
  intro p e s m args below meth c C
  unfold f_X7_fraction at hf
  refine a_L (L' := [(0, .ref (ad 0)), (1, .int x1), (2, .long x2), (4, .long x4)]) rfl ?_
  refine a_iload_n (pc := 0) C dX7_fraction_0 1 rfl ?_
  refine a_callS_Ir (pc := 1) (d' := 2) C dX7_fraction_1 ml_X7_257 mc_X7_isHold ms_X7_isHold [.int x1] rfl (Nat.le_of_ble_eq_true rfl) (Nat.le_of_ble_eq_true rfl) rfl (Nat.le_of_ble_eq_true rfl) (fun r h => c_X7_isHold N x1  _  r h) hf (fun v1 hf => ?_)
  refine a_if_ne (pc := 4) 10 C dX7_fraction_4 (by decide) hf (fun hf => ?_) (fun hf => ?_)
  · refine a_lload (pc := 10) C dX7_fraction_10 3 rfl ?_
    refine a_lconst (pc := 12) (v := 0) C dX7_fraction_12 (by decide) ?_
    refine a_lcmp (pc := 13) C dX7_fraction_13 ?_
    refine a_if_ne (pc := 14) 20 C dX7_fraction_14 (by decide) hf (fun hf => ?_) (fun hf => ?_)
    · refine a_aload_n (pc := 20) C dX7_fraction_20 0 rfl ?_
      refine a_getR (pc := 21) C dX7_fraction_21 fl_X7_52 tx_0 rfl ?_
      refine a_iload_n (pc := 24) C dX7_fraction_24 1 rfl ?_
      have hx3 := (ck_some hf).1
      refine a_aald (pc := 25) C dX7_fraction_25 tx_34 rfl hf (fun hf => ?_)
      refine a_lload_n (pc := 26) C dX7_fraction_26 2 rfl ?_
      refine a_lload (pc := 27) C dX7_fraction_27 3 rfl ?_
      refine a_callV_I (pc := 29) (d' := 2) C dX7_fraction_29 ml_X7_260 mc_X0_takeFraction mv_X0_takeFraction (hold_at hx3) rfl [.long x2, .long x4] rfl (Nat.le_of_ble_eq_true rfl) (Nat.le_of_ble_eq_true rfl) rfl (Nat.le_of_ble_eq_true rfl) (fun r M' h => c_X0_takeFraction N (holdC x1.toNatClampNeg) x2 x4 (hold_at hx3) _  r M' h) hf (fun v4 M5 hf => ?_)
      exact a_iret (pc := 32) C dX7_fraction_32 (so_1 hf) (so_2 hf)
    · refine a_bipush (pc := 17) (v := (-15)) C dX7_fraction_17 (by decide) ?_
      exact a_iret (pc := 19) C dX7_fraction_19 (so_1 hf) (so_2 hf)
  · refine a_bipush (pc := 7) (v := (-2)) C dX7_fraction_7 (by decide) ?_
    exact a_iret (pc := 9) C dX7_fraction_9 (so_1 hf) (so_2 hf)
theorem dX7_hold_0 : decode cX7_hold 0 = .ok (.iload_n 1, 1) := by decide +kernel
theorem dX7_hold_1 : decode cX7_hold 1 = .ok (.invokestatic 257, 3) := by decide +kernel
theorem dX7_hold_4 : decode cX7_hold 4 = .ok (.ifCond .eq 12, 3) := by decide +kernel
theorem dX7_hold_7 : decode cX7_hold 7 = .ok (.iload_n 2, 1) := by decide +kernel
theorem dX7_hold_8 : decode cX7_hold 8 = .ok (.iconst 0, 1) := by decide +kernel
theorem dX7_hold_9 : decode cX7_hold 9 = .ok (.iconst 2, 1) := by decide +kernel
theorem dX7_hold_10 : decode cX7_hold 10 = .ok (.invokestatic 64, 3) := by decide +kernel
theorem dX7_hold_13 : decode cX7_hold 13 = .ok (.ifCond .ne 6, 3) := by decide +kernel
theorem dX7_hold_16 : decode cX7_hold 16 = .ok (.bipush (-2), 2) := by decide +kernel
theorem dX7_hold_18 : decode cX7_hold 18 = .ok (.ireturn, 1) := by decide +kernel
theorem dX7_hold_19 : decode cX7_hold 19 = .ok (.iload_n 2, 1) := by decide +kernel
theorem dX7_hold_20 : decode cX7_hold 20 = .ok (.iconst 2, 1) := by decide +kernel
theorem dX7_hold_21 : decode cX7_hold 21 = .ok (.if_icmp .ne 15, 3) := by decide +kernel
theorem dX7_hold_24 : decode cX7_hold 24 = .ok (.aload_n 0, 1) := by decide +kernel
theorem dX7_hold_25 : decode cX7_hold 25 = .ok (.getfield 52, 3) := by decide +kernel
theorem dX7_hold_28 : decode cX7_hold 28 = .ok (.iload_n 1, 1) := by decide +kernel
theorem dX7_hold_29 : decode cX7_hold 29 = .ok (.aaload, 1) := by decide +kernel
theorem dX7_hold_30 : decode cX7_hold 30 = .ok (.iconst 0, 1) := by decide +kernel
theorem dX7_hold_31 : decode cX7_hold 31 = .ok (.putfield 264, 3) := by decide +kernel
theorem dX7_hold_34 : decode cX7_hold 34 = .ok (.iconst 1, 1) := by decide +kernel
theorem dX7_hold_35 : decode cX7_hold 35 = .ok (.ireturn, 1) := by decide +kernel
theorem dX7_hold_36 : decode cX7_hold 36 = .ok (.iload_n 2, 1) := by decide +kernel
theorem dX7_hold_37 : decode cX7_hold 37 = .ok (.ifCond .ne 45, 3) := by decide +kernel
theorem dX7_hold_40 : decode cX7_hold 40 = .ok (.aload_n 0, 1) := by decide +kernel
theorem dX7_hold_41 : decode cX7_hold 41 = .ok (.getfield 12, 3) := by decide +kernel
theorem dX7_hold_44 : decode cX7_hold 44 = .ok (.iload_n 3, 1) := by decide +kernel
theorem dX7_hold_45 : decode cX7_hold 45 = .ok (.invokevirtual 100, 3) := by decide +kernel
theorem dX7_hold_48 : decode cX7_hold 48 = .ok (.ifCond .ne 6, 3) := by decide +kernel
theorem dX7_hold_51 : decode cX7_hold 51 = .ok (.bipush (-2), 2) := by decide +kernel
theorem dX7_hold_53 : decode cX7_hold 53 = .ok (.ireturn, 1) := by decide +kernel
theorem dX7_hold_54 : decode cX7_hold 54 = .ok (.aload_n 0, 1) := by decide +kernel
theorem dX7_hold_55 : decode cX7_hold 55 = .ok (.getfield 52, 3) := by decide +kernel
theorem dX7_hold_58 : decode cX7_hold 58 = .ok (.iload_n 1, 1) := by decide +kernel
theorem dX7_hold_59 : decode cX7_hold 59 = .ok (.aaload, 1) := by decide +kernel
theorem dX7_hold_60 : decode cX7_hold 60 = .ok (.aload_n 0, 1) := by decide +kernel
theorem dX7_hold_61 : decode cX7_hold 61 = .ok (.getfield 12, 3) := by decide +kernel
theorem dX7_hold_64 : decode cX7_hold 64 = .ok (.getfield 103, 3) := by decide +kernel
theorem dX7_hold_67 : decode cX7_hold 67 = .ok (.iload_n 3, 1) := by decide +kernel
theorem dX7_hold_68 : decode cX7_hold 68 = .ok (.iaload, 1) := by decide +kernel
theorem dX7_hold_69 : decode cX7_hold 69 = .ok (.aload_n 0, 1) := by decide +kernel
theorem dX7_hold_70 : decode cX7_hold 70 = .ok (.getfield 12, 3) := by decide +kernel
theorem dX7_hold_73 : decode cX7_hold 73 = .ok (.iload_n 3, 1) := by decide +kernel
theorem dX7_hold_74 : decode cX7_hold 74 = .ok (.invokevirtual 110, 3) := by decide +kernel
theorem dX7_hold_77 : decode cX7_hold 77 = .ok (.invokevirtual 267, 3) := by decide +kernel
theorem dX7_hold_80 : decode cX7_hold 80 = .ok (.iconst 1, 1) := by decide +kernel
theorem dX7_hold_81 : decode cX7_hold 81 = .ok (.ireturn, 1) := by decide +kernel
theorem dX7_hold_82 : decode cX7_hold 82 = .ok (.iload_n 3, 1) := by decide +kernel
theorem dX7_hold_83 : decode cX7_hold 83 = .ok (.invokestatic 243, 3) := by decide +kernel
theorem dX7_hold_86 : decode cX7_hold 86 = .ok (.ifCond .ne 6, 3) := by decide +kernel
theorem dX7_hold_89 : decode cX7_hold 89 = .ok (.bipush (-2), 2) := by decide +kernel
theorem dX7_hold_91 : decode cX7_hold 91 = .ok (.ireturn, 1) := by decide +kernel
theorem dX7_hold_92 : decode cX7_hold 92 = .ok (.aload_n 0, 1) := by decide +kernel
theorem dX7_hold_93 : decode cX7_hold 93 = .ok (.getfield 59, 3) := by decide +kernel
theorem dX7_hold_96 : decode cX7_hold 96 = .ok (.iload_n 3, 1) := by decide +kernel
theorem dX7_hold_97 : decode cX7_hold 97 = .ok (.aaload, 1) := by decide +kernel
theorem dX7_hold_98 : decode cX7_hold 98 = .ok (.invokevirtual 271, 3) := by decide +kernel
theorem dX7_hold_101 : decode cX7_hold 101 = .ok (.ifCond .eq 6, 3) := by decide +kernel
theorem dX7_hold_104 : decode cX7_hold 104 = .ok (.bipush (-11), 2) := by decide +kernel
theorem dX7_hold_106 : decode cX7_hold 106 = .ok (.ireturn, 1) := by decide +kernel
theorem dX7_hold_107 : decode cX7_hold 107 = .ok (.aload_n 0, 1) := by decide +kernel
theorem dX7_hold_108 : decode cX7_hold 108 = .ok (.getfield 52, 3) := by decide +kernel
theorem dX7_hold_111 : decode cX7_hold 111 = .ok (.iload_n 1, 1) := by decide +kernel
theorem dX7_hold_112 : decode cX7_hold 112 = .ok (.aaload, 1) := by decide +kernel
theorem dX7_hold_113 : decode cX7_hold 113 = .ok (.aload_n 0, 1) := by decide +kernel
theorem dX7_hold_114 : decode cX7_hold 114 = .ok (.getfield 59, 3) := by decide +kernel
theorem dX7_hold_117 : decode cX7_hold 117 = .ok (.iload_n 3, 1) := by decide +kernel
theorem dX7_hold_118 : decode cX7_hold 118 = .ok (.aaload, 1) := by decide +kernel
theorem dX7_hold_119 : decode cX7_hold 119 = .ok (.invokevirtual 275, 3) := by decide +kernel
theorem dX7_hold_122 : decode cX7_hold 122 = .ok (.iconst 1, 1) := by decide +kernel
theorem dX7_hold_123 : decode cX7_hold 123 = .ok (.ireturn, 1) := by decide +kernel
def f_X7_hold (N : Nat) (x1 : Int32) (x2 : Int32) (x3 : Int32) (M : Mem) : Option (Int32 × Mem) := bd (f_X7_isHold N x1 M) (fun v1 => if v1 = 0 then (some ((-2 : Int32), M)) else (bd (f_X7_within N x2 (0 : Int32) (2 : Int32) M) (fun v3 => if v3 = 0 then (some ((-2 : Int32), M)) else (if x2 = (2 : Int32) then (ck (inb x1 4) (nm (setI M (holdC x1.toNatClampNeg) 0 (0 : Int32)) (fun M22 => some ((1 : Int32), M22)))) else (if x2 = 0 then (bd (f_X1_hasLine N 1 x3 M) (fun v14 => if v14 = 0 then (some ((-2 : Int32), M)) else (ck (inb x1 4) (ck (inb x3 10) (bd (f_X1_gapOf N 1 x3 M) (fun v17 => bd (f_X0_takeLine N (holdC x1.toNatClampNeg) (M.1 2 x3.toNatClampNeg) v17 M) (fun M20 => some ((1 : Int32), M20)))))))) else (bd (f_X7_isSheet N x3 M) (fun v5 => if v5 = 0 then (some ((-2 : Int32), M)) else (ck (inb x3 4) (bd (f_X5_isMissing N (sheetC x3.toNatClampNeg) M) (fun v8 => if v8 = 0 then (ck (inb x1 4) (ck (inb x3 4) (bd (f_X0_takeRow N (holdC x1.toNatClampNeg) (sheetC x3.toNatClampNeg) M) (fun M13 => some ((1 : Int32), M13))))) else (some ((-11 : Int32), M))))))))))))
set_option maxRecDepth 100000 in
set_option maxHeartbeats 4000000 in
theorem c_X7_hold {l : Launch} {D : va_G} {ac : Nat → ClassId} {A : Nat → Prop} {ad : Nat → Nat} {rest : va_W} (N : Nat) (x1 : Int32) (x2 : Int32) (x3 : Int32)  (M : Mem) (r0 : Int32) (M0 : Mem) (hf : f_X7_hold N x1 x2 x3 M = some (r0, M0)) : CtI l D ac A tabX ad rest yX7_hold cX7_hold 4 .int 3 [.ref (ad 0), .int x1, .int x2, .int x3] M r0 M0 := by
  refine ct_ofI (own := RX7) (by decide +kernel) rfl (Nat.le_of_ble_eq_true rfl) ?_
  intro p e s m args below meth c C
  unfold f_X7_hold at hf
  refine a_L (L' := [(0, .ref (ad 0)), (1, .int x1), (2, .int x2), (3, .int x3)]) rfl ?_
  refine a_iload_n (pc := 0) C dX7_hold_0 1 rfl ?_
  refine a_callS_Ir (pc := 1) (d' := 2) C dX7_hold_1 ml_X7_257 mc_X7_isHold ms_X7_isHold [.int x1] rfl (Nat.le_of_ble_eq_true rfl) (Nat.le_of_ble_eq_true rfl) rfl (Nat.le_of_ble_eq_true rfl) (fun r h => c_X7_isHold N x1  _  r h) hf (fun v1 hf => ?_)
  refine a_if_eq (pc := 4) 16 C dX7_hold_4 (by decide) hf (fun hf => ?_) (fun hf => ?_)
  · refine a_bipush (pc := 16) (v := (-2)) C dX7_hold_16 (by decide) ?_
    exact a_iret (pc := 18) C dX7_hold_18 (so_1 hf) (so_2 hf)
  · refine a_iload_n (pc := 7) C dX7_hold_7 2 rfl ?_
    refine a_iconst (pc := 8) (v := 0) C dX7_hold_8 (by decide) ?_
    refine a_iconst (pc := 9) (v := 2) C dX7_hold_9 (by decide) ?_
    refine a_callS_Ir (pc := 10) (d' := 1) C dX7_hold_10 ml_X7_64 mc_X7_within ms_X7_within [.int x2, .int (0 : Int32), .int (2 : Int32)] rfl (Nat.le_of_ble_eq_true rfl) (Nat.le_of_ble_eq_true rfl) rfl (Nat.le_of_ble_eq_true rfl) (fun r h => c_X7_within N x2 (0 : Int32) (2 : Int32)  _  r h) hf (fun v3 hf => ?_)
    refine a_if_ne (pc := 13) 19 C dX7_hold_13 (by decide) hf (fun hf => ?_) (fun hf => ?_)
    · refine a_iload_n (pc := 19) C dX7_hold_19 2 rfl ?_
      refine a_iconst (pc := 20) (v := 2) C dX7_hold_20 (by decide) ?_
      refine a_icmp_ne (pc := 21) 36 C dX7_hold_21 (by decide) hf (fun hf => ?_) (fun hf => ?_)
      · refine a_iload_n (pc := 36) C dX7_hold_36 2 rfl ?_
        refine a_if_ne (pc := 37) 82 C dX7_hold_37 (by decide) hf (fun hf => ?_) (fun hf => ?_)
        · refine a_iload_n (pc := 82) C dX7_hold_82 3 rfl ?_
          refine a_callS_Ir (pc := 83) (d' := 2) C dX7_hold_83 ml_X7_243 mc_X7_isSheet ms_X7_isSheet [.int x3] rfl (Nat.le_of_ble_eq_true rfl) (Nat.le_of_ble_eq_true rfl) rfl (Nat.le_of_ble_eq_true rfl) (fun r h => c_X7_isSheet N x3  _  r h) hf (fun v5 hf => ?_)
          refine a_if_ne (pc := 86) 92 C dX7_hold_86 (by decide) hf (fun hf => ?_) (fun hf => ?_)
          · refine a_aload_n (pc := 92) C dX7_hold_92 0 rfl ?_
            refine a_getR (pc := 93) C dX7_hold_93 fl_X7_59 tx_0 rfl ?_
            refine a_iload_n (pc := 96) C dX7_hold_96 3 rfl ?_
            have hx7 := (ck_some hf).1
            refine a_aald (pc := 97) C dX7_hold_97 tx_39 rfl hf (fun hf => ?_)
            refine a_callV_Ir (pc := 98) (d' := 1) C dX7_hold_98 ml_X7_271 mc_X5_isMissing mv_X5_isMissing (sheet_at hx7).1 rfl [] rfl (Nat.le_of_ble_eq_true rfl) (Nat.le_of_ble_eq_true rfl) rfl (Nat.le_of_ble_eq_true rfl) (fun r h => c_X5_isMissing N (sheetC x3.toNatClampNeg) (sheet_at hx7) _  r h) hf (fun v8 hf => ?_)
            refine a_if_eq (pc := 101) 107 C dX7_hold_101 (by decide) hf (fun hf => ?_) (fun hf => ?_)
            · refine a_aload_n (pc := 107) C dX7_hold_107 0 rfl ?_
              refine a_getR (pc := 108) C dX7_hold_108 fl_X7_52 tx_0 rfl ?_
              refine a_iload_n (pc := 111) C dX7_hold_111 1 rfl ?_
              have hx10 := (ck_some hf).1
              refine a_aald (pc := 112) C dX7_hold_112 tx_34 rfl hf (fun hf => ?_)
              refine a_aload_n (pc := 113) C dX7_hold_113 0 rfl ?_
              refine a_getR (pc := 114) C dX7_hold_114 fl_X7_59 tx_0 rfl ?_
              refine a_iload_n (pc := 117) C dX7_hold_117 3 rfl ?_
              have hx11 := (ck_some hf).1
              refine a_aald (pc := 118) C dX7_hold_118 tx_39 rfl hf (fun hf => ?_)
              refine a_callV_V (pc := 119) (d' := 1) C dX7_hold_119 ml_X7_275 mc_X0_takeRow mv_X0_takeRow (hold_at hx10) rfl [.ref (ad (sheetC x3.toNatClampNeg))] rfl (Nat.le_of_ble_eq_true rfl) (Nat.le_of_ble_eq_true rfl) rfl (Nat.le_of_ble_eq_true rfl) (fun M' h => c_X0_takeRow N (holdC x1.toNatClampNeg) (sheetC x3.toNatClampNeg) (hold_at hx10) (sheet_at hx11) _  M' h) hf (fun M13 hf => ?_)
              refine a_iconst (pc := 122) (v := 1) C dX7_hold_122 (by decide) ?_
              exact a_iret (pc := 123) C dX7_hold_123 (so_1 hf) (so_2 hf)
            · refine a_bipush (pc := 104) (v := (-11)) C dX7_hold_104 (by decide) ?_
              exact a_iret (pc := 106) C dX7_hold_106 (so_1 hf) (so_2 hf)
          · refine a_bipush (pc := 89) (v := (-2)) C dX7_hold_89 (by decide) ?_
            exact a_iret (pc := 91) C dX7_hold_91 (so_1 hf) (so_2 hf)
        · refine a_aload_n (pc := 40) C dX7_hold_40 0 rfl ?_
          refine a_getR (pc := 41) C dX7_hold_41 fl_X7_12 tx_0 rfl ?_
          refine a_iload_n (pc := 44) C dX7_hold_44 3 rfl ?_
          refine a_callV_Ir (pc := 45) (d' := 1) C dX7_hold_45 ml_X7_100 mc_X1_hasLine mv_X1_hasLine net_1.1 rfl [.int x3] rfl (Nat.le_of_ble_eq_true rfl) (Nat.le_of_ble_eq_true rfl) rfl (Nat.le_of_ble_eq_true rfl) (fun r h => c_X1_hasLine N 1 x3 net_1 _  r h) hf (fun v14 hf => ?_)
          refine a_if_ne (pc := 48) 54 C dX7_hold_48 (by decide) hf (fun hf => ?_) (fun hf => ?_)
          · refine a_aload_n (pc := 54) C dX7_hold_54 0 rfl ?_
            refine a_getR (pc := 55) C dX7_hold_55 fl_X7_52 tx_0 rfl ?_
            refine a_iload_n (pc := 58) C dX7_hold_58 1 rfl ?_
            have hx16 := (ck_some hf).1
            refine a_aald (pc := 59) C dX7_hold_59 tx_34 rfl hf (fun hf => ?_)
            refine a_aload_n (pc := 60) C dX7_hold_60 0 rfl ?_
            refine a_getR (pc := 61) C dX7_hold_61 fl_X7_12 tx_0 rfl ?_
            refine a_getR (pc := 64) C dX7_hold_64 fl_X7_103 net_1.1 rfl ?_
            refine a_iload_n (pc := 67) C dX7_hold_67 3 rfl ?_
            refine a_iald (pc := 68) C dX7_hold_68 net_1.2.1 hf (fun hf => ?_)
            refine a_aload_n (pc := 69) C dX7_hold_69 0 rfl ?_
            refine a_getR (pc := 70) C dX7_hold_70 fl_X7_12 tx_0 rfl ?_
            refine a_iload_n (pc := 73) C dX7_hold_73 3 rfl ?_
            refine a_callV_Ir (pc := 74) (d' := 2) C dX7_hold_74 ml_X7_110 mc_X1_gapOf mv_X1_gapOf net_1.1 rfl [.int x3] rfl (Nat.le_of_ble_eq_true rfl) (Nat.le_of_ble_eq_true rfl) rfl (Nat.le_of_ble_eq_true rfl) (fun r h => c_X1_gapOf N 1 x3 net_1 _  r h) hf (fun v17 hf => ?_)
            refine a_callV_V (pc := 77) (d' := 1) C dX7_hold_77 ml_X7_267 mc_X0_takeLine mv_X0_takeLine (hold_at hx16) rfl [.int (M.1 2 x3.toNatClampNeg), .int v17] rfl (Nat.le_of_ble_eq_true rfl) (Nat.le_of_ble_eq_true rfl) rfl (Nat.le_of_ble_eq_true rfl) (fun M' h => c_X0_takeLine N (holdC x1.toNatClampNeg) (M.1 2 x3.toNatClampNeg) v17 (hold_at hx16) _  M' h) hf (fun M20 hf => ?_)
            refine a_iconst (pc := 80) (v := 1) C dX7_hold_80 (by decide) ?_
            exact a_iret (pc := 81) C dX7_hold_81 (so_1 hf) (so_2 hf)
          · refine a_bipush (pc := 51) (v := (-2)) C dX7_hold_51 (by decide) ?_
            exact a_iret (pc := 53) C dX7_hold_53 (so_1 hf) (so_2 hf)
      · refine a_aload_n (pc := 24) C dX7_hold_24 0 rfl ?_
        refine a_getR (pc := 25) C dX7_hold_25 fl_X7_52 tx_0 rfl ?_
        refine a_iload_n (pc := 28) C dX7_hold_28 1 rfl ?_
        have hx21 := (ck_some hf).1
        refine a_aald (pc := 29) C dX7_hold_29 tx_34 rfl hf (fun hf => ?_)
        refine a_iconst (pc := 30) (v := 0) C dX7_hold_30 (by decide) ?_
        refine a_putI (pc := 31) C dX7_hold_31 fl_X7_264 (hold_at hx21) rfl hf (fun M22 hf => ?_)
        refine a_iconst (pc := 34) (v := 1) C dX7_hold_34 (by decide) ?_
        exact a_iret (pc := 35) C dX7_hold_35 (so_1 hf) (so_2 hf)
    · refine a_bipush (pc := 16) (v := (-2)) C dX7_hold_16 (by decide) ?_
      exact a_iret (pc := 18) C dX7_hold_18 (so_1 hf) (so_2 hf)
theorem dX7_told_0 : decode cX7_told 0 = .ok (.iload_n 1, 1) := by decide +kernel
theorem dX7_told_1 : decode cX7_told 1 = .ok (.invokestatic 257, 3) := by decide +kernel
theorem dX7_told_4 : decode cX7_told 4 = .ok (.ifCond .eq 13, 3) := by decide +kernel
theorem dX7_told_7 : decode cX7_told 7 = .ok (.iload_n 2, 1) := by decide +kernel
theorem dX7_told_8 : decode cX7_told 8 = .ok (.iconst 0, 1) := by decide +kernel
theorem dX7_told_9 : decode cX7_told 9 = .ok (.bipush 6, 2) := by decide +kernel
theorem dX7_told_11 : decode cX7_told 11 = .ok (.invokestatic 64, 3) := by decide +kernel
theorem dX7_told_14 : decode cX7_told 14 = .ok (.ifCond .ne 7, 3) := by decide +kernel
theorem dX7_told_17 : decode cX7_told 17 = .ok (.ldc2_w 125, 3) := by decide +kernel
theorem dX7_told_20 : decode cX7_told 20 = .ok (.lreturn, 1) := by decide +kernel
theorem dX7_told_21 : decode cX7_told 21 = .ok (.aload_n 0, 1) := by decide +kernel
theorem dX7_told_22 : decode cX7_told 22 = .ok (.getfield 52, 3) := by decide +kernel
theorem dX7_told_25 : decode cX7_told 25 = .ok (.iload_n 1, 1) := by decide +kernel
theorem dX7_told_26 : decode cX7_told 26 = .ok (.aaload, 1) := by decide +kernel
theorem dX7_told_27 : decode cX7_told 27 = .ok (.astore_n 3, 1) := by decide +kernel
theorem dX7_told_28 : decode cX7_told 28 = .ok (.aload_n 3, 1) := by decide +kernel
theorem dX7_told_29 : decode cX7_told 29 = .ok (.getfield 264, 3) := by decide +kernel
theorem dX7_told_32 : decode cX7_told 32 = .ok (.ifCond .ne 7, 3) := by decide +kernel
theorem dX7_told_35 : decode cX7_told 35 = .ok (.ldc2_w 300, 3) := by decide +kernel
theorem dX7_told_38 : decode cX7_told 38 = .ok (.lreturn, 1) := by decide +kernel
theorem dX7_told_39 : decode cX7_told 39 = .ok (.aload_n 3, 1) := by decide +kernel
theorem dX7_told_40 : decode cX7_told 40 = .ok (.getfield 264, 3) := by decide +kernel
theorem dX7_told_43 : decode cX7_told 43 = .ok (.iload_n 2, 1) := by decide +kernel
theorem dX7_told_44 : decode cX7_told 44 = .ok (.invokestatic 302, 3) := by decide +kernel
theorem dX7_told_47 : decode cX7_told 47 = .ok (.if_icmp .eq 7, 3) := by decide +kernel
theorem dX7_told_50 : decode cX7_told 50 = .ok (.ldc2_w 305, 3) := by decide +kernel
theorem dX7_told_53 : decode cX7_told 53 = .ok (.lreturn, 1) := by decide +kernel
theorem dX7_told_54 : decode cX7_told 54 = .ok (.iload_n 2, 1) := by decide +kernel
theorem dX7_told_55 : decode cX7_told 55 = .ok (.tableswitch 88 0 5 #[37, 42, 47, 70, 76, 82], 37) := by decide +kernel
theorem dX7_told_92 : decode cX7_told 92 = .ok (.aload_n 3, 1) := by decide +kernel
theorem dX7_told_93 : decode cX7_told 93 = .ok (.getfield 282, 3) := by decide +kernel
theorem dX7_told_96 : decode cX7_told 96 = .ok (.lreturn, 1) := by decide +kernel
theorem dX7_told_97 : decode cX7_told 97 = .ok (.aload_n 3, 1) := by decide +kernel
theorem dX7_told_98 : decode cX7_told 98 = .ok (.getfield 307, 3) := by decide +kernel
theorem dX7_told_101 : decode cX7_told 101 = .ok (.lreturn, 1) := by decide +kernel
theorem dX7_told_102 : decode cX7_told 102 = .ok (.aload_n 3, 1) := by decide +kernel
theorem dX7_told_103 : decode cX7_told 103 = .ok (.getfield 307, 3) := by decide +kernel
theorem dX7_told_106 : decode cX7_told 106 = .ok (.lconst 1, 1) := by decide +kernel
theorem dX7_told_107 : decode cX7_told 107 = .ok (.lcmp, 1) := by decide +kernel
theorem dX7_told_108 : decode cX7_told 108 = .ok (.ifCond .ge 7, 3) := by decide +kernel
theorem dX7_told_111 : decode cX7_told 111 = .ok (.lconst 0, 1) := by decide +kernel
theorem dX7_told_112 : decode cX7_told 112 = .ok (.goto 12, 3) := by decide +kernel
theorem dX7_told_115 : decode cX7_told 115 = .ok (.aload_n 3, 1) := by decide +kernel
theorem dX7_told_116 : decode cX7_told 116 = .ok (.getfield 282, 3) := by decide +kernel
theorem dX7_told_119 : decode cX7_told 119 = .ok (.aload_n 3, 1) := by decide +kernel
theorem dX7_told_120 : decode cX7_told 120 = .ok (.getfield 307, 3) := by decide +kernel
theorem dX7_told_123 : decode cX7_told 123 = .ok (.ldiv, 1) := by decide +kernel
theorem dX7_told_124 : decode cX7_told 124 = .ok (.lreturn, 1) := by decide +kernel
theorem dX7_told_125 : decode cX7_told 125 = .ok (.aload_n 3, 1) := by decide +kernel
theorem dX7_told_126 : decode cX7_told 126 = .ok (.getfield 309, 3) := by decide +kernel
theorem dX7_told_129 : decode cX7_told 129 = .ok (.i2l, 1) := by decide +kernel
theorem dX7_told_130 : decode cX7_told 130 = .ok (.lreturn, 1) := by decide +kernel
theorem dX7_told_131 : decode cX7_told 131 = .ok (.aload_n 3, 1) := by decide +kernel
theorem dX7_told_132 : decode cX7_told 132 = .ok (.getfield 311, 3) := by decide +kernel
theorem dX7_told_135 : decode cX7_told 135 = .ok (.i2l, 1) := by decide +kernel
theorem dX7_told_136 : decode cX7_told 136 = .ok (.lreturn, 1) := by decide +kernel
theorem dX7_told_137 : decode cX7_told 137 = .ok (.aload_n 3, 1) := by decide +kernel
theorem dX7_told_138 : decode cX7_told 138 = .ok (.getfield 314, 3) := by decide +kernel
theorem dX7_told_141 : decode cX7_told 141 = .ok (.i2l, 1) := by decide +kernel
theorem dX7_told_142 : decode cX7_told 142 = .ok (.lreturn, 1) := by decide +kernel
theorem dX7_told_143 : decode cX7_told 143 = .ok (.aload_n 3, 1) := by decide +kernel
theorem dX7_told_144 : decode cX7_told 144 = .ok (.getfield 315, 3) := by decide +kernel
theorem dX7_told_147 : decode cX7_told 147 = .ok (.lreturn, 1) := by decide +kernel
def f_X7_told (N : Nat) (x1 : Int32) (x2 : Int32) (M : Mem) : Option (Int64) := bd (f_X7_isHold N x1 M) (fun v1 => if v1 = 0 then (some (-4611686018427387906 : Int64)) else (bd (f_X7_within N x2 (0 : Int32) (6 : Int32) M) (fun v3 => if v3 = 0 then (some (-4611686018427387906 : Int64)) else (ck (inb x1 4) (if (M.1 (holdC x1.toNatClampNeg) 0) = 0 then (some (-4611686018427387915 : Int64)) else (bd (f_X0_thingTold N x2 M) (fun v6 => if (M.1 (holdC x1.toNatClampNeg) 0) = v6 then (if x2 = 0 then (some (M.2 (holdC x1.toNatClampNeg) 1)) else if x2 = 1 then (some (M.2 (holdC x1.toNatClampNeg) 2)) else if x2 = 2 then (if 0 ≤ (lg_cmp (M.2 (holdC x1.toNatClampNeg) 2) (1 : Int64)) then (ck (¬ (M.2 (holdC x1.toNatClampNeg) 2) = 0) (some ((M.2 (holdC x1.toNatClampNeg) 1) / (M.2 (holdC x1.toNatClampNeg) 2)))) else (some (0 : Int64))) else if x2 = 3 then (some ((M.1 (holdC x1.toNatClampNeg) 3).toInt64)) else if x2 = 4 then (some ((M.1 (holdC x1.toNatClampNeg) 4).toInt64)) else if x2 = 5 then (some ((M.1 (holdC x1.toNatClampNeg) 5).toInt64)) else (some (M.2 (holdC x1.toNatClampNeg) 6))) else (some (-4611686018427387917 : Int64)))))))))
set_option maxRecDepth 100000 in
set_option maxHeartbeats 4000000 in
theorem c_X7_told {l : Launch} {D : va_G} {ac : Nat → ClassId} {A : Nat → Prop} {ad : Nat → Nat} {rest : va_W} (N : Nat) (x1 : Int32) (x2 : Int32)  (M : Mem) (r0 : Int64) (hf : f_X7_told N x1 x2 M = some r0) : CtJ l D ac A tabX ad rest yX7_told cX7_told 4  3 [.ref (ad 0), .int x1, .int x2] M r0 M := by
  refine ct_ofJ (own := RX7) (by decide +kernel) rfl (Nat.le_of_ble_eq_true rfl) ?_
  intro p e s m args below meth c C
  unfold f_X7_told at hf
  refine a_L (L' := [(0, .ref (ad 0)), (1, .int x1), (2, .int x2)]) rfl ?_
  refine a_iload_n (pc := 0) C dX7_told_0 1 rfl ?_
  refine a_callS_Ir (pc := 1) (d' := 2) C dX7_told_1 ml_X7_257 mc_X7_isHold ms_X7_isHold [.int x1] rfl (Nat.le_of_ble_eq_true rfl) (Nat.le_of_ble_eq_true rfl) rfl (Nat.le_of_ble_eq_true rfl) (fun r h => c_X7_isHold N x1  _  r h) hf (fun v1 hf => ?_)
  refine a_if_eq (pc := 4) 17 C dX7_told_4 (by decide) hf (fun hf => ?_) (fun hf => ?_)
  · refine a_ldc2 (pc := 17) C dX7_told_17 cj_X7_125 ?_
    exact a_lret (pc := 20) C dX7_told_20 (Option.some.inj hf) rfl
  · refine a_iload_n (pc := 7) C dX7_told_7 2 rfl ?_
    refine a_iconst (pc := 8) (v := 0) C dX7_told_8 (by decide) ?_
    refine a_bipush (pc := 9) (v := 6) C dX7_told_9 (by decide) ?_
    refine a_callS_Ir (pc := 11) (d' := 1) C dX7_told_11 ml_X7_64 mc_X7_within ms_X7_within [.int x2, .int (0 : Int32), .int (6 : Int32)] rfl (Nat.le_of_ble_eq_true rfl) (Nat.le_of_ble_eq_true rfl) rfl (Nat.le_of_ble_eq_true rfl) (fun r h => c_X7_within N x2 (0 : Int32) (6 : Int32)  _  r h) hf (fun v3 hf => ?_)
    refine a_if_ne (pc := 14) 21 C dX7_told_14 (by decide) hf (fun hf => ?_) (fun hf => ?_)
    · refine a_aload_n (pc := 21) C dX7_told_21 0 rfl ?_
      refine a_getR (pc := 22) C dX7_told_22 fl_X7_52 tx_0 rfl ?_
      refine a_iload_n (pc := 25) C dX7_told_25 1 rfl ?_
      have hx5 := (ck_some hf).1
      refine a_aald (pc := 26) C dX7_told_26 tx_34 rfl hf (fun hf => ?_)
      refine a_astore_n (pc := 27) [(3, .ref (ad (holdC x1.toNatClampNeg))), (0, .ref (ad 0)), (1, .int x1), (2, .int x2)] C dX7_told_27 (by decide) rfl ?_
      refine a_aload_n (pc := 28) C dX7_told_28 0 rfl ?_
      refine a_getI (pc := 29) C dX7_told_29 fl_X7_264 (hold_at hx5) rfl ?_
      refine a_if_ne (pc := 32) 39 C dX7_told_32 (by decide) hf (fun hf => ?_) (fun hf => ?_)
      · refine a_aload_n (pc := 39) C dX7_told_39 0 rfl ?_
        refine a_getI (pc := 40) C dX7_told_40 fl_X7_264 (hold_at hx5) rfl ?_
        refine a_iload_n (pc := 43) C dX7_told_43 3 rfl ?_
        refine a_callS_Ir (pc := 44) (d' := 1) C dX7_told_44 ml_X7_302 mc_X0_thingTold ms_X0_thingTold [.int x2] rfl (Nat.le_of_ble_eq_true rfl) (Nat.le_of_ble_eq_true rfl) rfl (Nat.le_of_ble_eq_true rfl) (fun r h => c_X0_thingTold N x2  _  r h) hf (fun v6 hf => ?_)
        refine a_icmp_eq (pc := 47) 54 C dX7_told_47 (by decide) hf (fun hf => ?_) (fun hf => ?_)
        · refine a_iload_n (pc := 54) C dX7_told_54 3 rfl ?_
          by_cases hs8 : x2 = 0
          · rw [if_pos hs8] at hf
            refine a_tabIn (pc := 55) (off := 37) 92 C dX7_told_55 (by rw [hs8]; decide) (by rw [hs8]; decide) (by rw [hs8]; rfl) (by decide) ?_
            refine a_aload_n (pc := 92) C dX7_told_92 0 rfl ?_
            refine a_getJ (pc := 93) C dX7_told_93 fl_X7_282 (hold_at hx5) rfl ?_
            exact a_lret (pc := 96) C dX7_told_96 (Option.some.inj hf) rfl
          · rw [if_neg hs8] at hf
            by_cases hs9 : x2 = 1
            · rw [if_pos hs9] at hf
              refine a_tabIn (pc := 55) (off := 42) 97 C dX7_told_55 (by rw [hs9]; decide) (by rw [hs9]; decide) (by rw [hs9]; rfl) (by decide) ?_
              refine a_aload_n (pc := 97) C dX7_told_97 0 rfl ?_
              refine a_getJ (pc := 98) C dX7_told_98 fl_X7_307 (hold_at hx5) rfl ?_
              exact a_lret (pc := 101) C dX7_told_101 (Option.some.inj hf) rfl
            · rw [if_neg hs9] at hf
              by_cases hs10 : x2 = 2
              · rw [if_pos hs10] at hf
                refine a_tabIn (pc := 55) (off := 47) 102 C dX7_told_55 (by rw [hs10]; decide) (by rw [hs10]; decide) (by rw [hs10]; rfl) (by decide) ?_
                refine a_aload_n (pc := 102) C dX7_told_102 0 rfl ?_
                refine a_getJ (pc := 103) C dX7_told_103 fl_X7_307 (hold_at hx5) rfl ?_
                refine a_lconst (pc := 106) (v := 1) C dX7_told_106 (by decide) ?_
                refine a_lcmp (pc := 107) C dX7_told_107 ?_
                refine a_if_ge (pc := 108) 115 C dX7_told_108 (by decide) hf (fun hf => ?_) (fun hf => ?_)
                · refine a_aload_n (pc := 115) C dX7_told_115 0 rfl ?_
                  refine a_getJ (pc := 116) C dX7_told_116 fl_X7_282 (hold_at hx5) rfl ?_
                  refine a_aload_n (pc := 119) C dX7_told_119 0 rfl ?_
                  refine a_getJ (pc := 120) C dX7_told_120 fl_X7_307 (hold_at hx5) rfl ?_
                  refine a_ldiv (pc := 123) C dX7_told_123 hf (fun hf => ?_)
                  exact a_lret (pc := 124) C dX7_told_124 (Option.some.inj hf) rfl
                · refine a_lconst (pc := 111) (v := 0) C dX7_told_111 (by decide) ?_
                  refine a_goto (pc := 112) 124 C dX7_told_112 (by decide) ?_
                  exact a_lret (pc := 124) C dX7_told_124 (Option.some.inj hf) rfl
              · rw [if_neg hs10] at hf
                by_cases hs11 : x2 = 3
                · rw [if_pos hs11] at hf
                  refine a_tabIn (pc := 55) (off := 70) 125 C dX7_told_55 (by rw [hs11]; decide) (by rw [hs11]; decide) (by rw [hs11]; rfl) (by decide) ?_
                  refine a_aload_n (pc := 125) C dX7_told_125 0 rfl ?_
                  refine a_getI (pc := 126) C dX7_told_126 fl_X7_309 (hold_at hx5) rfl ?_
                  refine a_i2l (pc := 129) C dX7_told_129 ?_
                  exact a_lret (pc := 130) C dX7_told_130 (Option.some.inj hf) rfl
                · rw [if_neg hs11] at hf
                  by_cases hs12 : x2 = 4
                  · rw [if_pos hs12] at hf
                    refine a_tabIn (pc := 55) (off := 76) 131 C dX7_told_55 (by rw [hs12]; decide) (by rw [hs12]; decide) (by rw [hs12]; rfl) (by decide) ?_
                    refine a_aload_n (pc := 131) C dX7_told_131 0 rfl ?_
                    refine a_getI (pc := 132) C dX7_told_132 fl_X7_311 (hold_at hx5) rfl ?_
                    refine a_i2l (pc := 135) C dX7_told_135 ?_
                    exact a_lret (pc := 136) C dX7_told_136 (Option.some.inj hf) rfl
                  · rw [if_neg hs12] at hf
                    by_cases hs13 : x2 = 5
                    · rw [if_pos hs13] at hf
                      refine a_tabIn (pc := 55) (off := 82) 137 C dX7_told_55 (by rw [hs13]; decide) (by rw [hs13]; decide) (by rw [hs13]; rfl) (by decide) ?_
                      refine a_aload_n (pc := 137) C dX7_told_137 0 rfl ?_
                      refine a_getI (pc := 138) C dX7_told_138 fl_X7_314 (hold_at hx5) rfl ?_
                      refine a_i2l (pc := 141) C dX7_told_141 ?_
                      exact a_lret (pc := 142) C dX7_told_142 (Option.some.inj hf) rfl
                    · rw [if_neg hs13] at hf
                      refine a_tabOut (pc := 55) 143 C dX7_told_55 (by have nhs8 := ne_toInt hs8 (k := 0) (by decide); have nhs9 := ne_toInt hs9 (k := 1) (by decide); have nhs10 := ne_toInt hs10 (k := 2) (by decide); have nhs11 := ne_toInt hs11 (k := 3) (by decide); have nhs12 := ne_toInt hs12 (k := 4) (by decide); have nhs13 := ne_toInt hs13 (k := 5) (by decide); omega) (by decide) ?_
                      refine a_aload_n (pc := 143) C dX7_told_143 0 rfl ?_
                      refine a_getJ (pc := 144) C dX7_told_144 fl_X7_315 (hold_at hx5) rfl ?_
                      exact a_lret (pc := 147) C dX7_told_147 (Option.some.inj hf) rfl
        · refine a_ldc2 (pc := 50) C dX7_told_50 cj_X7_305 ?_
          exact a_lret (pc := 53) C dX7_told_53 (Option.some.inj hf) rfl
      · refine a_ldc2 (pc := 35) C dX7_told_35 cj_X7_300 ?_
        exact a_lret (pc := 38) C dX7_told_38 (Option.some.inj hf) rfl
    · refine a_ldc2 (pc := 17) C dX7_told_17 cj_X7_125 ?_
      exact a_lret (pc := 20) C dX7_told_20 (Option.some.inj hf) rfl
theorem dX7_deal_0 : decode cX7_deal 0 = .ok (.iload_n 1, 1) := by decide +kernel
theorem dX7_deal_1 : decode cX7_deal 1 = .ok (.iconst 1, 1) := by decide +kernel
theorem dX7_deal_2 : decode cX7_deal 2 = .ok (.bipush 6, 2) := by decide +kernel
theorem dX7_deal_4 : decode cX7_deal 4 = .ok (.invokestatic 64, 3) := by decide +kernel
theorem dX7_deal_7 : decode cX7_deal 7 = .ok (.ifCond .eq 13, 3) := by decide +kernel
theorem dX7_deal_10 : decode cX7_deal 10 = .ok (.iload_n 2, 1) := by decide +kernel
theorem dX7_deal_11 : decode cX7_deal 11 = .ok (.iconst 0, 1) := by decide +kernel
theorem dX7_deal_12 : decode cX7_deal 12 = .ok (.bipush 10, 2) := by decide +kernel
theorem dX7_deal_14 : decode cX7_deal 14 = .ok (.invokestatic 64, 3) := by decide +kernel
theorem dX7_deal_17 : decode cX7_deal 17 = .ok (.ifCond .ne 6, 3) := by decide +kernel
theorem dX7_deal_20 : decode cX7_deal 20 = .ok (.bipush (-2), 2) := by decide +kernel
theorem dX7_deal_22 : decode cX7_deal 22 = .ok (.ireturn, 1) := by decide +kernel
theorem dX7_deal_23 : decode cX7_deal 23 = .ok (.aload_n 0, 1) := by decide +kernel
theorem dX7_deal_24 : decode cX7_deal 24 = .ok (.getfield 25, 3) := by decide +kernel
theorem dX7_deal_27 : decode cX7_deal 27 = .ok (.invokevirtual 93, 3) := by decide +kernel
theorem dX7_deal_30 : decode cX7_deal 30 = .ok (.aload_n 0, 1) := by decide +kernel
theorem dX7_deal_31 : decode cX7_deal 31 = .ok (.getfield 12, 3) := by decide +kernel
theorem dX7_deal_34 : decode cX7_deal 34 = .ok (.iconst 0, 1) := by decide +kernel
theorem dX7_deal_35 : decode cX7_deal 35 = .ok (.putfield 68, 3) := by decide +kernel
theorem dX7_deal_38 : decode cX7_deal 38 = .ok (.aload_n 0, 1) := by decide +kernel
theorem dX7_deal_39 : decode cX7_deal 39 = .ok (.getfield 12, 3) := by decide +kernel
theorem dX7_deal_42 : decode cX7_deal 42 = .ok (.iconst 0, 1) := by decide +kernel
theorem dX7_deal_43 : decode cX7_deal 43 = .ok (.putfield 90, 3) := by decide +kernel
theorem dX7_deal_46 : decode cX7_deal 46 = .ok (.aload_n 0, 1) := by decide +kernel
theorem dX7_deal_47 : decode cX7_deal 47 = .ok (.getfield 12, 3) := by decide +kernel
theorem dX7_deal_50 : decode cX7_deal 50 = .ok (.iload_n 1, 1) := by decide +kernel
theorem dX7_deal_51 : decode cX7_deal 51 = .ok (.invokevirtual 72, 3) := by decide +kernel
theorem dX7_deal_54 : decode cX7_deal 54 = .ok (.iconst 1, 1) := by decide +kernel
theorem dX7_deal_55 : decode cX7_deal 55 = .ok (.istore_n 3, 1) := by decide +kernel
theorem dX7_deal_56 : decode cX7_deal 56 = .ok (.iload_n 3, 1) := by decide +kernel
theorem dX7_deal_57 : decode cX7_deal 57 = .ok (.iload_n 1, 1) := by decide +kernel
theorem dX7_deal_58 : decode cX7_deal 58 = .ok (.if_icmp .ge 84, 3) := by decide +kernel
theorem dX7_deal_61 : decode cX7_deal 61 = .ok (.iconst 0, 1) := by decide +kernel
theorem dX7_deal_62 : decode cX7_deal 62 = .ok (.istore 4, 2) := by decide +kernel
theorem dX7_deal_64 : decode cX7_deal 64 = .ok (.iload 4, 2) := by decide +kernel
theorem dX7_deal_66 : decode cX7_deal 66 = .ok (.iload_n 3, 1) := by decide +kernel
theorem dX7_deal_67 : decode cX7_deal 67 = .ok (.if_icmp .ge 69, 3) := by decide +kernel
theorem dX7_deal_70 : decode cX7_deal 70 = .ok (.aload_n 0, 1) := by decide +kernel
theorem dX7_deal_71 : decode cX7_deal 71 = .ok (.getfield 12, 3) := by decide +kernel
theorem dX7_deal_74 : decode cX7_deal 74 = .ok (.getfield 90, 3) := by decide +kernel
theorem dX7_deal_77 : decode cX7_deal 77 = .ok (.bipush 10, 2) := by decide +kernel
theorem dX7_deal_79 : decode cX7_deal 79 = .ok (.if_icmp .ge 57, 3) := by decide +kernel
theorem dX7_deal_82 : decode cX7_deal 82 = .ok (.aload_n 0, 1) := by decide +kernel
theorem dX7_deal_83 : decode cX7_deal 83 = .ok (.getfield 12, 3) := by decide +kernel
theorem dX7_deal_86 : decode cX7_deal 86 = .ok (.invokevirtual 328, 3) := by decide +kernel
theorem dX7_deal_89 : decode cX7_deal 89 = .ok (.bipush 10, 2) := by decide +kernel
theorem dX7_deal_91 : decode cX7_deal 91 = .ok (.irem, 1) := by decide +kernel
theorem dX7_deal_92 : decode cX7_deal 92 = .ok (.iload_n 2, 1) := by decide +kernel
theorem dX7_deal_93 : decode cX7_deal 93 = .ok (.if_icmp .ge 37, 3) := by decide +kernel
theorem dX7_deal_96 : decode cX7_deal 96 = .ok (.aload_n 0, 1) := by decide +kernel
theorem dX7_deal_97 : decode cX7_deal 97 = .ok (.getfield 12, 3) := by decide +kernel
theorem dX7_deal_100 : decode cX7_deal 100 = .ok (.invokevirtual 328, 3) := by decide +kernel
theorem dX7_deal_103 : decode cX7_deal 103 = .ok (.iconst 5, 1) := by decide +kernel
theorem dX7_deal_104 : decode cX7_deal 104 = .ok (.irem, 1) := by decide +kernel
theorem dX7_deal_105 : decode cX7_deal 105 = .ok (.istore 5, 2) := by decide +kernel
theorem dX7_deal_107 : decode cX7_deal 107 = .ok (.aload_n 0, 1) := by decide +kernel
theorem dX7_deal_108 : decode cX7_deal 108 = .ok (.getfield 12, 3) := by decide +kernel
theorem dX7_deal_111 : decode cX7_deal 111 = .ok (.iload 5, 2) := by decide +kernel
theorem dX7_deal_113 : decode cX7_deal 113 = .ok (.iconst 1, 1) := by decide +kernel
theorem dX7_deal_114 : decode cX7_deal 114 = .ok (.aload_n 0, 1) := by decide +kernel
theorem dX7_deal_115 : decode cX7_deal 115 = .ok (.getfield 12, 3) := by decide +kernel
theorem dX7_deal_118 : decode cX7_deal 118 = .ok (.invokevirtual 328, 3) := by decide +kernel
theorem dX7_deal_121 : decode cX7_deal 121 = .ok (.iconst 3, 1) := by decide +kernel
theorem dX7_deal_122 : decode cX7_deal 122 = .ok (.irem, 1) := by decide +kernel
theorem dX7_deal_123 : decode cX7_deal 123 = .ok (.iadd, 1) := by decide +kernel
theorem dX7_deal_124 : decode cX7_deal 124 = .ok (.iload 4, 2) := by decide +kernel
theorem dX7_deal_126 : decode cX7_deal 126 = .ok (.iload_n 3, 1) := by decide +kernel
theorem dX7_deal_127 : decode cX7_deal 127 = .ok (.invokevirtual 96, 3) := by decide +kernel
theorem dX7_deal_130 : decode cX7_deal 130 = .ok (.iinc 4 1, 3) := by decide +kernel
theorem dX7_deal_133 : decode cX7_deal 133 = .ok (.goto (-69), 3) := by decide +kernel
theorem dX7_deal_136 : decode cX7_deal 136 = .ok (.iinc 3 1, 3) := by decide +kernel
theorem dX7_deal_139 : decode cX7_deal 139 = .ok (.goto (-83), 3) := by decide +kernel
theorem dX7_deal_142 : decode cX7_deal 142 = .ok (.aload_n 0, 1) := by decide +kernel
theorem dX7_deal_143 : decode cX7_deal 143 = .ok (.getfield 12, 3) := by decide +kernel
theorem dX7_deal_146 : decode cX7_deal 146 = .ok (.getfield 90, 3) := by decide +kernel
theorem dX7_deal_149 : decode cX7_deal 149 = .ok (.ireturn, 1) := by decide +kernel
def f_X7_deal (N : Nat) (x1 : Int32) (x2 : Int32) (M : Mem) : Option (Int32 × Mem) := bd (f_X7_within N x1 (1 : Int32) (6 : Int32) M) (fun v1 => if v1 = 0 then (some ((-2 : Int32), M)) else (bd (f_X7_within N x2 (0 : Int32) (10 : Int32) M) (fun v3 => if v3 = 0 then (some ((-2 : Int32), M)) else (bd (f_X4_forget N  M) (fun M6 => nm (setI M6 1 0 (0 : Int32)) (fun M7 => nm (setI M7 1 1 (0 : Int32)) (fun M8 => bd (f_X1_addPoints N 1 x1 M8) (fun M10 => lp (fun (k56 : (Int32 × Mem) → Option (Int32 × Mem)) (a56 : Int32 × Mem) => if x1 ≤ a56.1 then (some ((a56.2.1 1 1), a56.2)) else (lp (fun (k64 : (Int32 × Mem) → Option (Int32 × Mem)) (a64 : Int32 × Mem) => jn (fun (a136 : Unit) => nm (a56.1 + (1 : Int32)) (fun v11 => k56 (v11, a64.2))) (fun (k136 : Unit → Option (Int32 × Mem)) => if a56.1 ≤ a64.1 then (k136 ()) else (if (10 : Int32) ≤ (a64.2.1 1 1) then (k136 ()) else (bd (f_X1_draw N 1 a64.2) (fun w14 => ck (¬ (10 : Int32) = 0) (jn (fun (a130 : Mem) => nm (a64.1 + (1 : Int32)) (fun v15 => k64 (v15, a130))) (fun (k130 : Mem → Option (Int32 × Mem)) => if x2 ≤ (w14.1 - w14.1 / (10 : Int32) * (10 : Int32)) then (k130 w14.2) else (bd (f_X1_draw N 1 w14.2) (fun w18 => ck (¬ (5 : Int32) = 0) (nm (w18.1 - w18.1 / (5 : Int32) * (5 : Int32)) (fun v19 => bd (f_X1_draw N 1 w18.2) (fun w22 => ck (¬ (3 : Int32) = 0) (bd (f_X1_addLine N 1 v19 ((1 : Int32) + (w22.1 - w22.1 / (3 : Int32) * (3 : Int32))) a64.1 a56.1 w22.2) (fun M24 => k130 M24)))))))))))))) N ((0 : Int32), a56.2))) N ((1 : Int32), M10)))))))))
set_option maxRecDepth 100000 in
set_option maxHeartbeats 4000000 in
theorem c_X7_deal {l : Launch} {D : va_G} {ac : Nat → ClassId} {A : Nat → Prop} {ad : Nat → Nat} {rest : va_W} (N : Nat) (x1 : Int32) (x2 : Int32)  (M : Mem) (r0 : Int32) (M0 : Mem) (hf : f_X7_deal N x1 x2 M = some (r0, M0)) : CtI l D ac A tabX ad rest yX7_deal cX7_deal 6 .int 3 [.ref (ad 0), .int x1, .int x2] M r0 M0 := by
  refine ct_ofI (own := RX7) (by decide +kernel) rfl (Nat.le_of_ble_eq_true rfl) ?_
  intro p e s m args below meth c C
  unfold f_X7_deal at hf
  refine a_L (L' := [(0, .ref (ad 0)), (1, .int x1), (2, .int x2)]) rfl ?_
  refine a_iload_n (pc := 0) C dX7_deal_0 1 rfl ?_
  refine a_iconst (pc := 1) (v := 1) C dX7_deal_1 (by decide) ?_
  refine a_bipush (pc := 2) (v := 6) C dX7_deal_2 (by decide) ?_
  refine a_callS_Ir (pc := 4) (d' := 1) C dX7_deal_4 ml_X7_64 mc_X7_within ms_X7_within [.int x1, .int (1 : Int32), .int (6 : Int32)] rfl (Nat.le_of_ble_eq_true rfl) (Nat.le_of_ble_eq_true rfl) rfl (Nat.le_of_ble_eq_true rfl) (fun r h => c_X7_within N x1 (1 : Int32) (6 : Int32)  _  r h) hf (fun v1 hf => ?_)
  refine a_if_eq (pc := 7) 20 C dX7_deal_7 (by decide) hf (fun hf => ?_) (fun hf => ?_)
  · refine a_bipush (pc := 20) (v := (-2)) C dX7_deal_20 (by decide) ?_
    exact a_iret (pc := 22) C dX7_deal_22 (so_1 hf) (so_2 hf)
  · refine a_iload_n (pc := 10) C dX7_deal_10 2 rfl ?_
    refine a_iconst (pc := 11) (v := 0) C dX7_deal_11 (by decide) ?_
    refine a_bipush (pc := 12) (v := 10) C dX7_deal_12 (by decide) ?_
    refine a_callS_Ir (pc := 14) (d' := 1) C dX7_deal_14 ml_X7_64 mc_X7_within ms_X7_within [.int x2, .int (0 : Int32), .int (10 : Int32)] rfl (Nat.le_of_ble_eq_true rfl) (Nat.le_of_ble_eq_true rfl) rfl (Nat.le_of_ble_eq_true rfl) (fun r h => c_X7_within N x2 (0 : Int32) (10 : Int32)  _  r h) hf (fun v3 hf => ?_)
    refine a_if_ne (pc := 17) 23 C dX7_deal_17 (by decide) hf (fun hf => ?_) (fun hf => ?_)
    · refine a_aload_n (pc := 23) C dX7_deal_23 0 rfl ?_
      refine a_getR (pc := 24) C dX7_deal_24 fl_X7_25 tx_0 rfl ?_
      refine a_callV_V (pc := 27) (d' := 1) C dX7_deal_27 ml_X7_93 mc_X4_forget mv_X4_forget tx_19 rfl [] rfl (Nat.le_of_ble_eq_true rfl) (Nat.le_of_ble_eq_true rfl) rfl (Nat.le_of_ble_eq_true rfl) (fun M' h => c_X4_forget N   _  M' h) hf (fun M6 hf => ?_)
      refine a_aload_n (pc := 30) C dX7_deal_30 0 rfl ?_
      refine a_getR (pc := 31) C dX7_deal_31 fl_X7_12 tx_0 rfl ?_
      refine a_iconst (pc := 34) (v := 0) C dX7_deal_34 (by decide) ?_
      refine a_putI (pc := 35) C dX7_deal_35 fl_X7_68 net_1.1 rfl hf (fun M7 hf => ?_)
      refine a_aload_n (pc := 38) C dX7_deal_38 0 rfl ?_
      refine a_getR (pc := 39) C dX7_deal_39 fl_X7_12 tx_0 rfl ?_
      refine a_iconst (pc := 42) (v := 0) C dX7_deal_42 (by decide) ?_
      refine a_putI (pc := 43) C dX7_deal_43 fl_X7_90 net_1.1 rfl hf (fun M8 hf => ?_)
      refine a_aload_n (pc := 46) C dX7_deal_46 0 rfl ?_
      refine a_getR (pc := 47) C dX7_deal_47 fl_X7_12 tx_0 rfl ?_
      refine a_iload_n (pc := 50) C dX7_deal_50 1 rfl ?_
      refine a_callV_V (pc := 51) (d' := 1) C dX7_deal_51 ml_X7_72 mc_X1_addPoints mv_X1_addPoints net_1.1 rfl [.int x1] rfl (Nat.le_of_ble_eq_true rfl) (Nat.le_of_ble_eq_true rfl) rfl (Nat.le_of_ble_eq_true rfl) (fun M' h => c_X1_addPoints N 1 x1 net_1 _  M' h) hf (fun M10 hf => ?_)
      refine a_iconst (pc := 54) (v := 1) C dX7_deal_54 (by decide) ?_
      refine a_istore_n (pc := 55) [(3, .int (1 : Int32)), (0, .ref (ad 0)), (1, .int x1), (2, .int x2)] C dX7_deal_55 (by decide) rfl ?_
      refine a_sub [1, 2, 3, 0] rfl ?_
      refine a_lp 56 (fun a56 : Int32 × Mem => [(0, .ref (ad 0)), (1, .int x1), (2, .int x2), (3, .int a56.1)]) (fun a56 : Int32 × Mem => []) (fun a56 : Int32 × Mem => a56.2) (fun k56 a56 hk56 hf => ?_) N ((1 : Int32), M10) hf
      refine a_iload_n (pc := 56) C dX7_deal_56 3 rfl ?_
      refine a_iload_n (pc := 57) C dX7_deal_57 1 rfl ?_
      refine a_icmp_ge (pc := 58) 142 C dX7_deal_58 (by decide) hf (fun hf => ?_) (fun hf => ?_)
      · refine a_aload_n (pc := 142) C dX7_deal_142 0 rfl ?_
        refine a_getR (pc := 143) C dX7_deal_143 fl_X7_12 tx_0 rfl ?_
        refine a_getI (pc := 146) C dX7_deal_146 fl_X7_90 net_1.1 rfl ?_
        exact a_iret (pc := 149) C dX7_deal_149 (so_1 hf) (so_2 hf)
      · refine a_iconst (pc := 61) (v := 0) C dX7_deal_61 (by decide) ?_
        refine a_istore (pc := 62) [(4, .int (0 : Int32)), (0, .ref (ad 0)), (1, .int x1), (2, .int x2), (3, .int a56.1)] C dX7_deal_62 (by decide) rfl ?_
        refine a_sub [1, 2, 3, 4, 0] rfl ?_
        refine a_lp 64 (fun a64 : Int32 × Mem => [(0, .ref (ad 0)), (1, .int x1), (2, .int x2), (3, .int a56.1), (4, .int a64.1)]) (fun a64 : Int32 × Mem => []) (fun a64 : Int32 × Mem => a64.2) (fun k64 a64 hk64 hf => ?_) N ((0 : Int32), a56.2) hf
        refine a_iload (pc := 64) C dX7_deal_64 4 rfl ?_
        refine a_iload_n (pc := 66) C dX7_deal_66 3 rfl ?_
        refine a_jn 136 (fun a136 : Unit => [(0, .ref (ad 0)), (1, .int x1), (2, .int x2), (3, .int a56.1)]) (fun a136 : Unit => []) (fun a136 : Unit => a64.2) hf (fun a136 hf => ?_) (fun k136 hk136 hf => ?_)
        · refine a_iinc (pc := 136) (v := 1) (fun v11 => [(3, .int v11), (0, .ref (ad 0)), (1, .int x1), (2, .int x2)]) C dX7_deal_136 3 rfl (by decide) (by decide) (fun _ => rfl) hf (fun v11 hf => ?_)
          refine a_goto (pc := 139) 56 C dX7_deal_139 (by decide) ?_
          exact a_sub [1, 2, 3, 0] rfl (hk56 (v11, a64.2) hf)
        · refine a_icmp_ge (pc := 67) 136 C dX7_deal_67 (by decide) hf (fun hf => ?_) (fun hf => ?_)
          · exact a_sub [0, 1, 2, 3] rfl (hk136 () hf)
          · refine a_aload_n (pc := 70) C dX7_deal_70 0 rfl ?_
            refine a_getR (pc := 71) C dX7_deal_71 fl_X7_12 tx_0 rfl ?_
            refine a_getI (pc := 74) C dX7_deal_74 fl_X7_90 net_1.1 rfl ?_
            refine a_bipush (pc := 77) (v := 10) C dX7_deal_77 (by decide) ?_
            refine a_icmp_ge (pc := 79) 136 C dX7_deal_79 (by decide) hf (fun hf => ?_) (fun hf => ?_)
            · exact a_sub [0, 1, 2, 3] rfl (hk136 () hf)
            · refine a_aload_n (pc := 82) C dX7_deal_82 0 rfl ?_
              refine a_getR (pc := 83) C dX7_deal_83 fl_X7_12 tx_0 rfl ?_
              refine a_callV_I (pc := 86) (d' := 1) C dX7_deal_86 ml_X7_328 mc_X1_draw mv_X1_draw net_1.1 rfl [] rfl (Nat.le_of_ble_eq_true rfl) (Nat.le_of_ble_eq_true rfl) rfl (Nat.le_of_ble_eq_true rfl) (fun r M' h => c_X1_draw N 1 net_1 _  r M' h) hf (fun v12 M13 hf => ?_)
              refine a_bipush (pc := 89) (v := 10) C dX7_deal_89 (by decide) ?_
              refine a_irem (pc := 91) C dX7_deal_91 hf (fun hf => ?_)
              refine a_iload_n (pc := 92) C dX7_deal_92 2 rfl ?_
              refine a_jn 130 (fun a130 : Mem => [(0, .ref (ad 0)), (1, .int x1), (2, .int x2), (3, .int a56.1), (4, .int a64.1)]) (fun a130 : Mem => []) (fun a130 : Mem => a130) hf (fun a130 hf => ?_) (fun k130 hk130 hf => ?_)
              · refine a_iinc (pc := 130) (v := 1) (fun v15 => [(4, .int v15), (0, .ref (ad 0)), (1, .int x1), (2, .int x2), (3, .int a56.1)]) C dX7_deal_130 4 rfl (by decide) (by decide) (fun _ => rfl) hf (fun v15 hf => ?_)
                refine a_goto (pc := 133) 64 C dX7_deal_133 (by decide) ?_
                exact a_sub [1, 2, 3, 4, 0] rfl (hk64 (v15, a130) hf)
              · refine a_icmp_ge (pc := 93) 130 C dX7_deal_93 (by decide) hf (fun hf => ?_) (fun hf => ?_)
                · exact a_sub [0, 1, 2, 3, 4] rfl (hk130 M13 hf)
                · refine a_aload_n (pc := 96) C dX7_deal_96 0 rfl ?_
                  refine a_getR (pc := 97) C dX7_deal_97 fl_X7_12 tx_0 rfl ?_
                  refine a_callV_I (pc := 100) (d' := 1) C dX7_deal_100 ml_X7_328 mc_X1_draw mv_X1_draw net_1.1 rfl [] rfl (Nat.le_of_ble_eq_true rfl) (Nat.le_of_ble_eq_true rfl) rfl (Nat.le_of_ble_eq_true rfl) (fun r M' h => c_X1_draw N 1 net_1 _  r M' h) hf (fun v16 M17 hf => ?_)
                  refine a_iconst (pc := 103) (v := 5) C dX7_deal_103 (by decide) ?_
                  refine a_irem (pc := 104) C dX7_deal_104 hf (fun hf => ?_)
                  refine a_nmi hf (fun v19 hf => ?_)
                  refine a_istore (pc := 105) [(5, .int v19), (0, .ref (ad 0)), (1, .int x1), (2, .int x2), (3, .int a56.1), (4, .int a64.1)] C dX7_deal_105 (by decide) rfl ?_
                  refine a_aload_n (pc := 107) C dX7_deal_107 1 rfl ?_
                  refine a_getR (pc := 108) C dX7_deal_108 fl_X7_12 tx_0 rfl ?_
                  refine a_iload (pc := 111) C dX7_deal_111 0 rfl ?_
                  refine a_iconst (pc := 113) (v := 1) C dX7_deal_113 (by decide) ?_
                  refine a_aload_n (pc := 114) C dX7_deal_114 1 rfl ?_
                  refine a_getR (pc := 115) C dX7_deal_115 fl_X7_12 tx_0 rfl ?_
                  refine a_callV_I (pc := 118) (d' := 1) C dX7_deal_118 ml_X7_328 mc_X1_draw mv_X1_draw net_1.1 rfl [] rfl (Nat.le_of_ble_eq_true rfl) (Nat.le_of_ble_eq_true rfl) rfl (Nat.le_of_ble_eq_true rfl) (fun r M' h => c_X1_draw N 1 net_1 _  r M' h) hf (fun v20 M21 hf => ?_)
                  refine a_iconst (pc := 121) (v := 3) C dX7_deal_121 (by decide) ?_
                  refine a_irem (pc := 122) C dX7_deal_122 hf (fun hf => ?_)
                  refine a_iadd (pc := 123) C dX7_deal_123 ?_
                  refine a_iload (pc := 124) C dX7_deal_124 5 rfl ?_
                  refine a_iload_n (pc := 126) C dX7_deal_126 4 rfl ?_
                  refine a_callV_V (pc := 127) (d' := 2) C dX7_deal_127 ml_X7_96 mc_X1_addLine mv_X1_addLine net_1.1 rfl [.int v19, .int ((1 : Int32) + (v20 - v20 / (3 : Int32) * (3 : Int32))), .int a64.1, .int a56.1] rfl (Nat.le_of_ble_eq_true rfl) (Nat.le_of_ble_eq_true rfl) rfl (Nat.le_of_ble_eq_true rfl) (fun M' h => c_X1_addLine N 1 v19 ((1 : Int32) + (v20 - v20 / (3 : Int32) * (3 : Int32))) a64.1 a56.1 net_1 _  M' h) hf (fun M24 hf => ?_)
                  exact a_sub [1, 2, 3, 4, 5] rfl (hk130 M24 hf)
    · refine a_bipush (pc := 20) (v := (-2)) C dX7_deal_20 (by decide) ?_
      exact a_iret (pc := 22) C dX7_deal_22 (so_1 hf) (so_2 hf)
theorem dX7_sheet_0 : decode cX7_sheet 0 = .ok (.iload_n 1, 1) := by decide +kernel
theorem dX7_sheet_1 : decode cX7_sheet 1 = .ok (.invokestatic 243, 3) := by decide +kernel
theorem dX7_sheet_4 : decode cX7_sheet 4 = .ok (.ifCond .eq 12, 3) := by decide +kernel
theorem dX7_sheet_7 : decode cX7_sheet 7 = .ok (.iload_n 2, 1) := by decide +kernel
theorem dX7_sheet_8 : decode cX7_sheet 8 = .ok (.iconst (-1), 1) := by decide +kernel
theorem dX7_sheet_9 : decode cX7_sheet 9 = .ok (.iconst 1, 1) := by decide +kernel
theorem dX7_sheet_10 : decode cX7_sheet 10 = .ok (.invokestatic 64, 3) := by decide +kernel
theorem dX7_sheet_13 : decode cX7_sheet 13 = .ok (.ifCond .ne 6, 3) := by decide +kernel
theorem dX7_sheet_16 : decode cX7_sheet 16 = .ok (.bipush (-2), 2) := by decide +kernel
theorem dX7_sheet_18 : decode cX7_sheet 18 = .ok (.ireturn, 1) := by decide +kernel
theorem dX7_sheet_19 : decode cX7_sheet 19 = .ok (.iload_n 2, 1) := by decide +kernel
theorem dX7_sheet_20 : decode cX7_sheet 20 = .ok (.iconst (-1), 1) := by decide +kernel
theorem dX7_sheet_21 : decode cX7_sheet 21 = .ok (.if_icmp .ne 15, 3) := by decide +kernel
theorem dX7_sheet_24 : decode cX7_sheet 24 = .ok (.aload_n 0, 1) := by decide +kernel
theorem dX7_sheet_25 : decode cX7_sheet 25 = .ok (.getfield 59, 3) := by decide +kernel
theorem dX7_sheet_28 : decode cX7_sheet 28 = .ok (.iload_n 1, 1) := by decide +kernel
theorem dX7_sheet_29 : decode cX7_sheet 29 = .ok (.aaload, 1) := by decide +kernel
theorem dX7_sheet_30 : decode cX7_sheet 30 = .ok (.iconst (-1), 1) := by decide +kernel
theorem dX7_sheet_31 : decode cX7_sheet 31 = .ok (.putfield 249, 3) := by decide +kernel
theorem dX7_sheet_34 : decode cX7_sheet 34 = .ok (.iconst 1, 1) := by decide +kernel
theorem dX7_sheet_35 : decode cX7_sheet 35 = .ok (.ireturn, 1) := by decide +kernel
theorem dX7_sheet_36 : decode cX7_sheet 36 = .ok (.iload_n 3, 1) := by decide +kernel
theorem dX7_sheet_37 : decode cX7_sheet 37 = .ok (.bipush 40, 2) := by decide +kernel
theorem dX7_sheet_39 : decode cX7_sheet 39 = .ok (.if_icmp .le 6, 3) := by decide +kernel
theorem dX7_sheet_42 : decode cX7_sheet 42 = .ok (.bipush (-2), 2) := by decide +kernel
theorem dX7_sheet_44 : decode cX7_sheet 44 = .ok (.ireturn, 1) := by decide +kernel
theorem dX7_sheet_45 : decode cX7_sheet 45 = .ok (.iload_n 3, 1) := by decide +kernel
theorem dX7_sheet_46 : decode cX7_sheet 46 = .ok (.ifCond .ge 6, 3) := by decide +kernel
theorem dX7_sheet_49 : decode cX7_sheet 49 = .ok (.bipush (-14), 2) := by decide +kernel
theorem dX7_sheet_51 : decode cX7_sheet 51 = .ok (.ireturn, 1) := by decide +kernel
theorem dX7_sheet_52 : decode cX7_sheet 52 = .ok (.aload_n 0, 1) := by decide +kernel
theorem dX7_sheet_53 : decode cX7_sheet 53 = .ok (.getfield 59, 3) := by decide +kernel
theorem dX7_sheet_56 : decode cX7_sheet 56 = .ok (.iload_n 1, 1) := by decide +kernel
theorem dX7_sheet_57 : decode cX7_sheet 57 = .ok (.aaload, 1) := by decide +kernel
theorem dX7_sheet_58 : decode cX7_sheet 58 = .ok (.iload_n 2, 1) := by decide +kernel
theorem dX7_sheet_59 : decode cX7_sheet 59 = .ok (.iload_n 3, 1) := by decide +kernel
theorem dX7_sheet_60 : decode cX7_sheet 60 = .ok (.invokevirtual 331, 3) := by decide +kernel
theorem dX7_sheet_63 : decode cX7_sheet 63 = .ok (.iconst 1, 1) := by decide +kernel
theorem dX7_sheet_64 : decode cX7_sheet 64 = .ok (.ireturn, 1) := by decide +kernel
def f_X7_sheet (N : Nat) (x1 : Int32) (x2 : Int32) (x3 : Int32) (M : Mem) : Option (Int32 × Mem) := bd (f_X7_isSheet N x1 M) (fun v1 => if v1 = 0 then (some ((-2 : Int32), M)) else (bd (f_X7_within N x2 (-1 : Int32) (1 : Int32) M) (fun v3 => if v3 = 0 then (some ((-2 : Int32), M)) else (if x2 = (-1 : Int32) then (ck (inb x1 4) (nm (setI M (sheetC x1.toNatClampNeg) 0 (-1 : Int32)) (fun M9 => some ((1 : Int32), M9)))) else (if x3 ≤ (40 : Int32) then (if 0 ≤ x3 then (ck (inb x1 4) (bd (f_X5_begin N (sheetC x1.toNatClampNeg) x2 x3 M) (fun M7 => some ((1 : Int32), M7)))) else (some ((-14 : Int32), M))) else (some ((-2 : Int32), M)))))))
set_option maxRecDepth 100000 in
set_option maxHeartbeats 4000000 in
theorem c_X7_sheet {l : Launch} {D : va_G} {ac : Nat → ClassId} {A : Nat → Prop} {ad : Nat → Nat} {rest : va_W} (N : Nat) (x1 : Int32) (x2 : Int32) (x3 : Int32)  (M : Mem) (r0 : Int32) (M0 : Mem) (hf : f_X7_sheet N x1 x2 x3 M = some (r0, M0)) : CtI l D ac A tabX ad rest yX7_sheet cX7_sheet 4 .int 3 [.ref (ad 0), .int x1, .int x2, .int x3] M r0 M0 := by
  refine ct_ofI (own := RX7) (by decide +kernel) rfl (Nat.le_of_ble_eq_true rfl) ?_
  intro p e s m args below meth c C
  unfold f_X7_sheet at hf
  refine a_L (L' := [(0, .ref (ad 0)), (1, .int x1), (2, .int x2), (3, .int x3)]) rfl ?_
  refine a_iload_n (pc := 0) C dX7_sheet_0 1 rfl ?_
  refine a_callS_Ir (pc := 1) (d' := 2) C dX7_sheet_1 ml_X7_243 mc_X7_isSheet ms_X7_isSheet [.int x1] rfl (Nat.le_of_ble_eq_true rfl) (Nat.le_of_ble_eq_true rfl) rfl (Nat.le_of_ble_eq_true rfl) (fun r h => c_X7_isSheet N x1  _  r h) hf (fun v1 hf => ?_)
  refine a_if_eq (pc := 4) 16 C dX7_sheet_4 (by decide) hf (fun hf => ?_) (fun hf => ?_)
  · refine a_bipush (pc := 16) (v := (-2)) C dX7_sheet_16 (by decide) ?_
    exact a_iret (pc := 18) C dX7_sheet_18 (so_1 hf) (so_2 hf)
  · refine a_iload_n (pc := 7) C dX7_sheet_7 2 rfl ?_
    refine a_iconst (pc := 8) (v := (-1)) C dX7_sheet_8 (by decide) ?_
    refine a_iconst (pc := 9) (v := 1) C dX7_sheet_9 (by decide) ?_
    refine a_callS_Ir (pc := 10) (d' := 1) C dX7_sheet_10 ml_X7_64 mc_X7_within ms_X7_within [.int x2, .int (-1 : Int32), .int (1 : Int32)] rfl (Nat.le_of_ble_eq_true rfl) (Nat.le_of_ble_eq_true rfl) rfl (Nat.le_of_ble_eq_true rfl) (fun r h => c_X7_within N x2 (-1 : Int32) (1 : Int32)  _  r h) hf (fun v3 hf => ?_)
    refine a_if_ne (pc := 13) 19 C dX7_sheet_13 (by decide) hf (fun hf => ?_) (fun hf => ?_)
    · refine a_iload_n (pc := 19) C dX7_sheet_19 2 rfl ?_
      refine a_iconst (pc := 20) (v := (-1)) C dX7_sheet_20 (by decide) ?_
      refine a_icmp_ne (pc := 21) 36 C dX7_sheet_21 (by decide) hf (fun hf => ?_) (fun hf => ?_)
      · refine a_iload_n (pc := 36) C dX7_sheet_36 3 rfl ?_
        refine a_bipush (pc := 37) (v := 40) C dX7_sheet_37 (by decide) ?_
        refine a_icmp_le (pc := 39) 45 C dX7_sheet_39 (by decide) hf (fun hf => ?_) (fun hf => ?_)
        · refine a_iload_n (pc := 45) C dX7_sheet_45 3 rfl ?_
          refine a_if_ge (pc := 46) 52 C dX7_sheet_46 (by decide) hf (fun hf => ?_) (fun hf => ?_)
          · refine a_aload_n (pc := 52) C dX7_sheet_52 0 rfl ?_
            refine a_getR (pc := 53) C dX7_sheet_53 fl_X7_59 tx_0 rfl ?_
            refine a_iload_n (pc := 56) C dX7_sheet_56 1 rfl ?_
            have hx5 := (ck_some hf).1
            refine a_aald (pc := 57) C dX7_sheet_57 tx_39 rfl hf (fun hf => ?_)
            refine a_iload_n (pc := 58) C dX7_sheet_58 2 rfl ?_
            refine a_iload_n (pc := 59) C dX7_sheet_59 3 rfl ?_
            refine a_callV_V (pc := 60) (d' := 2) C dX7_sheet_60 ml_X7_331 mc_X5_begin mv_X5_begin (sheet_at hx5).1 rfl [.int x2, .int x3] rfl (Nat.le_of_ble_eq_true rfl) (Nat.le_of_ble_eq_true rfl) rfl (Nat.le_of_ble_eq_true rfl) (fun M' h => c_X5_begin N (sheetC x1.toNatClampNeg) x2 x3 (sheet_at hx5) _  M' h) hf (fun M7 hf => ?_)
            refine a_iconst (pc := 63) (v := 1) C dX7_sheet_63 (by decide) ?_
            exact a_iret (pc := 64) C dX7_sheet_64 (so_1 hf) (so_2 hf)
          · refine a_bipush (pc := 49) (v := (-14)) C dX7_sheet_49 (by decide) ?_
            exact a_iret (pc := 51) C dX7_sheet_51 (so_1 hf) (so_2 hf)
        · refine a_bipush (pc := 42) (v := (-2)) C dX7_sheet_42 (by decide) ?_
          exact a_iret (pc := 44) C dX7_sheet_44 (so_1 hf) (so_2 hf)
      · refine a_aload_n (pc := 24) C dX7_sheet_24 0 rfl ?_
        refine a_getR (pc := 25) C dX7_sheet_25 fl_X7_59 tx_0 rfl ?_
        refine a_iload_n (pc := 28) C dX7_sheet_28 1 rfl ?_
        have hx8 := (ck_some hf).1
        refine a_aald (pc := 29) C dX7_sheet_29 tx_39 rfl hf (fun hf => ?_)
        refine a_iconst (pc := 30) (v := (-1)) C dX7_sheet_30 (by decide) ?_
        refine a_putI (pc := 31) C dX7_sheet_31 fl_X7_249 (sheet_at hx8).1 rfl hf (fun M9 hf => ?_)
        refine a_iconst (pc := 34) (v := 1) C dX7_sheet_34 (by decide) ?_
        exact a_iret (pc := 35) C dX7_sheet_35 (so_1 hf) (so_2 hf)
    · refine a_bipush (pc := 16) (v := (-2)) C dX7_sheet_16 (by decide) ?_
      exact a_iret (pc := 18) C dX7_sheet_18 (so_1 hf) (so_2 hf)
theorem dX7_write_0 : decode cX7_write 0 = .ok (.iload_n 1, 1) := by decide +kernel
theorem dX7_write_1 : decode cX7_write 1 = .ok (.invokestatic 243, 3) := by decide +kernel
theorem dX7_write_4 : decode cX7_write 4 = .ok (.ifCond .ne 6, 3) := by decide +kernel
theorem dX7_write_7 : decode cX7_write 7 = .ok (.bipush (-2), 2) := by decide +kernel
theorem dX7_write_9 : decode cX7_write 9 = .ok (.ireturn, 1) := by decide +kernel
theorem dX7_write_10 : decode cX7_write 10 = .ok (.aload_n 0, 1) := by decide +kernel
theorem dX7_write_11 : decode cX7_write 11 = .ok (.getfield 59, 3) := by decide +kernel
theorem dX7_write_14 : decode cX7_write 14 = .ok (.iload_n 1, 1) := by decide +kernel
theorem dX7_write_15 : decode cX7_write 15 = .ok (.aaload, 1) := by decide +kernel
theorem dX7_write_16 : decode cX7_write 16 = .ok (.astore 5, 2) := by decide +kernel
theorem dX7_write_18 : decode cX7_write 18 = .ok (.aload 5, 2) := by decide +kernel
theorem dX7_write_20 : decode cX7_write 20 = .ok (.invokevirtual 271, 3) := by decide +kernel
theorem dX7_write_23 : decode cX7_write 23 = .ok (.ifCond .eq 6, 3) := by decide +kernel
theorem dX7_write_26 : decode cX7_write 26 = .ok (.bipush (-11), 2) := by decide +kernel
theorem dX7_write_28 : decode cX7_write 28 = .ok (.ireturn, 1) := by decide +kernel
theorem dX7_write_29 : decode cX7_write 29 = .ok (.aload 5, 2) := by decide +kernel
theorem dX7_write_31 : decode cX7_write 31 = .ok (.iload_n 2, 1) := by decide +kernel
theorem dX7_write_32 : decode cX7_write 32 = .ok (.invokevirtual 334, 3) := by decide +kernel
theorem dX7_write_35 : decode cX7_write 35 = .ok (.ifCond .ne 6, 3) := by decide +kernel
theorem dX7_write_38 : decode cX7_write 38 = .ok (.bipush (-12), 2) := by decide +kernel
theorem dX7_write_40 : decode cX7_write 40 = .ok (.ireturn, 1) := by decide +kernel
theorem dX7_write_41 : decode cX7_write 41 = .ok (.aload 5, 2) := by decide +kernel
theorem dX7_write_43 : decode cX7_write 43 = .ok (.getfield 249, 3) := by decide +kernel
theorem dX7_write_46 : decode cX7_write 46 = .ok (.ifCond .ne 14, 3) := by decide +kernel
theorem dX7_write_49 : decode cX7_write 49 = .ok (.lload_n 3, 1) := by decide +kernel
theorem dX7_write_50 : decode cX7_write 50 = .ok (.lload_n 3, 1) := by decide +kernel
theorem dX7_write_51 : decode cX7_write 51 = .ok (.l2i, 1) := by decide +kernel
theorem dX7_write_52 : decode cX7_write 52 = .ok (.i2l, 1) := by decide +kernel
theorem dX7_write_53 : decode cX7_write 53 = .ok (.lcmp, 1) := by decide +kernel
theorem dX7_write_54 : decode cX7_write 54 = .ok (.ifCond .eq 6, 3) := by decide +kernel
theorem dX7_write_57 : decode cX7_write 57 = .ok (.bipush (-5), 2) := by decide +kernel
theorem dX7_write_59 : decode cX7_write 59 = .ok (.ireturn, 1) := by decide +kernel
theorem dX7_write_60 : decode cX7_write 60 = .ok (.aload 5, 2) := by decide +kernel
theorem dX7_write_62 : decode cX7_write 62 = .ok (.getfield 246, 3) := by decide +kernel
theorem dX7_write_65 : decode cX7_write 65 = .ok (.iload_n 2, 1) := by decide +kernel
theorem dX7_write_66 : decode cX7_write 66 = .ok (.lload_n 3, 1) := by decide +kernel
theorem dX7_write_67 : decode cX7_write 67 = .ok (.lastore, 1) := by decide +kernel
theorem dX7_write_68 : decode cX7_write 68 = .ok (.iconst 1, 1) := by decide +kernel
theorem dX7_write_69 : decode cX7_write 69 = .ok (.ireturn, 1) := by decide +kernel
def f_X7_write (N : Nat) (x1 : Int32) (x2 : Int32) (x3 : Int64) (M : Mem) : Option (Int32 × Mem) := bd (f_X7_isSheet N x1 M) (fun v1 => if v1 = 0 then (some ((-2 : Int32), M)) else (ck (inb x1 4) (bd (f_X5_isMissing N (sheetC x1.toNatClampNeg) M) (fun v4 => if v4 = 0 then (bd (f_X5_hasNumber N (sheetC x1.toNatClampNeg) x2 M) (fun v6 => if v6 = 0 then (some ((-12 : Int32), M)) else (jn (fun (a60 : Unit) => ck (inb x2 40) (nm (setJ M ((sheetC x1.toNatClampNeg) + 1) x2.toNatClampNeg x3) (fun M8 => some ((1 : Int32), M8)))) (fun (k60 : Unit → Option (Int32 × Mem)) => if (M.1 (sheetC x1.toNatClampNeg) 0) = 0 then (if (lg_cmp x3 x3.toInt32.toInt64) = 0 then (k60 ()) else (some ((-5 : Int32), M))) else (k60 ()))))) else (some ((-11 : Int32), M))))))
set_option maxRecDepth 100000 in
set_option maxHeartbeats 4000000 in
theorem c_X7_write {l : Launch} {D : va_G} {ac : Nat → ClassId} {A : Nat → Prop} {ad : Nat → Nat} {rest : va_W} (N : Nat) (x1 : Int32) (x2 : Int32) (x3 : Int64)  (M : Mem) (r0 : Int32) (M0 : Mem) (hf : f_X7_write N x1 x2 x3 M = some (r0, M0)) : CtI l D ac A tabX ad rest yX7_write cX7_write 6 .int 3 [.ref (ad 0), .int x1, .int x2, .long x3] M r0 M0 := by
  refine ct_ofI (own := RX7) (by decide +kernel) rfl (Nat.le_of_ble_eq_true rfl) ?_
  intro p e s m args below meth c C
  unfold f_X7_write at hf
  refine a_L (L' := [(0, .ref (ad 0)), (1, .int x1), (2, .int x2), (3, .long x3)]) rfl ?_
  refine a_iload_n (pc := 0) C dX7_write_0 1 rfl ?_
  refine a_callS_Ir (pc := 1) (d' := 2) C dX7_write_1 ml_X7_243 mc_X7_isSheet ms_X7_isSheet [.int x1] rfl (Nat.le_of_ble_eq_true rfl) (Nat.le_of_ble_eq_true rfl) rfl (Nat.le_of_ble_eq_true rfl) (fun r h => c_X7_isSheet N x1  _  r h) hf (fun v1 hf => ?_)
  refine a_if_ne (pc := 4) 10 C dX7_write_4 (by decide) hf (fun hf => ?_) (fun hf => ?_)
  · refine a_aload_n (pc := 10) C dX7_write_10 0 rfl ?_
    refine a_getR (pc := 11) C dX7_write_11 fl_X7_59 tx_0 rfl ?_
    refine a_iload_n (pc := 14) C dX7_write_14 1 rfl ?_
    have hx3 := (ck_some hf).1
    refine a_aald (pc := 15) C dX7_write_15 tx_39 rfl hf (fun hf => ?_)
    refine a_astore (pc := 16) [(5, .ref (ad (sheetC x1.toNatClampNeg))), (0, .ref (ad 0)), (1, .int x1), (2, .int x2), (3, .long x3)] C dX7_write_16 (by decide) rfl ?_
    refine a_aload (pc := 18) C dX7_write_18 0 rfl ?_
    refine a_callV_Ir (pc := 20) (d' := 1) C dX7_write_20 ml_X7_271 mc_X5_isMissing mv_X5_isMissing (sheet_at hx3).1 rfl [] rfl (Nat.le_of_ble_eq_true rfl) (Nat.le_of_ble_eq_true rfl) rfl (Nat.le_of_ble_eq_true rfl) (fun r h => c_X5_isMissing N (sheetC x1.toNatClampNeg) (sheet_at hx3) _  r h) hf (fun v4 hf => ?_)
    refine a_if_eq (pc := 23) 29 C dX7_write_23 (by decide) hf (fun hf => ?_) (fun hf => ?_)
    · refine a_aload (pc := 29) C dX7_write_29 0 rfl ?_
      refine a_iload_n (pc := 31) C dX7_write_31 3 rfl ?_
      refine a_callV_Ir (pc := 32) (d' := 1) C dX7_write_32 ml_X7_334 mc_X5_hasNumber mv_X5_hasNumber (sheet_at hx3).1 rfl [.int x2] rfl (Nat.le_of_ble_eq_true rfl) (Nat.le_of_ble_eq_true rfl) rfl (Nat.le_of_ble_eq_true rfl) (fun r h => c_X5_hasNumber N (sheetC x1.toNatClampNeg) x2 (sheet_at hx3) _  r h) hf (fun v6 hf => ?_)
      refine a_if_ne (pc := 35) 41 C dX7_write_35 (by decide) hf (fun hf => ?_) (fun hf => ?_)
      · refine a_aload (pc := 41) C dX7_write_41 0 rfl ?_
        refine a_getI (pc := 43) C dX7_write_43 fl_X7_249 (sheet_at hx3).1 rfl ?_
        refine a_jn 60 (fun a60 : Unit => [(2, .int x2), (3, .long x3), (5, .ref (ad (sheetC x1.toNatClampNeg)))]) (fun a60 : Unit => []) (fun a60 : Unit => M) hf (fun a60 hf => ?_) (fun k60 hk60 hf => ?_)
        · refine a_aload (pc := 60) C dX7_write_60 2 rfl ?_
          refine a_getR (pc := 62) C dX7_write_62 fl_X7_246 (sheet_at hx3).1 rfl ?_
          refine a_iload_n (pc := 65) C dX7_write_65 0 rfl ?_
          refine a_lload_n (pc := 66) C dX7_write_66 1 rfl ?_
          refine a_last (pc := 67) C dX7_write_67 (sheet_at hx3).2 hf (fun M8 hf => ?_)
          refine a_iconst (pc := 68) (v := 1) C dX7_write_68 (by decide) ?_
          exact a_iret (pc := 69) C dX7_write_69 (so_1 hf) (so_2 hf)
        · refine a_if_ne (pc := 46) 60 C dX7_write_46 (by decide) hf (fun hf => ?_) (fun hf => ?_)
          · exact a_sub [3, 4, 0] rfl (hk60 () hf)
          · refine a_lload_n (pc := 49) C dX7_write_49 4 rfl ?_
            refine a_lload_n (pc := 50) C dX7_write_50 4 rfl ?_
            refine a_l2i (pc := 51) C dX7_write_51 ?_
            refine a_i2l (pc := 52) C dX7_write_52 ?_
            refine a_lcmp (pc := 53) C dX7_write_53 ?_
            refine a_if_eq (pc := 54) 60 C dX7_write_54 (by decide) hf (fun hf => ?_) (fun hf => ?_)
            · exact a_sub [3, 4, 0] rfl (hk60 () hf)
            · refine a_bipush (pc := 57) (v := (-5)) C dX7_write_57 (by decide) ?_
              exact a_iret (pc := 59) C dX7_write_59 (so_1 hf) (so_2 hf)
      · refine a_bipush (pc := 38) (v := (-12)) C dX7_write_38 (by decide) ?_
        exact a_iret (pc := 40) C dX7_write_40 (so_1 hf) (so_2 hf)
    · refine a_bipush (pc := 26) (v := (-11)) C dX7_write_26 (by decide) ?_
      exact a_iret (pc := 28) C dX7_write_28 (so_1 hf) (so_2 hf)
  · refine a_bipush (pc := 7) (v := (-2)) C dX7_write_7 (by decide) ?_
    exact a_iret (pc := 9) C dX7_write_9 (so_1 hf) (so_2 hf)
theorem dX7_item_0 : decode cX7_item 0 = .ok (.iload_n 1, 1) := by decide +kernel
theorem dX7_item_1 : decode cX7_item 1 = .ok (.invokestatic 243, 3) := by decide +kernel
theorem dX7_item_4 : decode cX7_item 4 = .ok (.ifCond .ne 7, 3) := by decide +kernel
theorem dX7_item_7 : decode cX7_item 7 = .ok (.ldc2_w 125, 3) := by decide +kernel
theorem dX7_item_10 : decode cX7_item 10 = .ok (.lreturn, 1) := by decide +kernel
theorem dX7_item_11 : decode cX7_item 11 = .ok (.aload_n 0, 1) := by decide +kernel
theorem dX7_item_12 : decode cX7_item 12 = .ok (.getfield 59, 3) := by decide +kernel
theorem dX7_item_15 : decode cX7_item 15 = .ok (.iload_n 1, 1) := by decide +kernel
theorem dX7_item_16 : decode cX7_item 16 = .ok (.aaload, 1) := by decide +kernel
theorem dX7_item_17 : decode cX7_item 17 = .ok (.invokevirtual 271, 3) := by decide +kernel
theorem dX7_item_20 : decode cX7_item 20 = .ok (.ifCond .eq 7, 3) := by decide +kernel
theorem dX7_item_23 : decode cX7_item 23 = .ok (.ldc2_w 300, 3) := by decide +kernel
theorem dX7_item_26 : decode cX7_item 26 = .ok (.lreturn, 1) := by decide +kernel
theorem dX7_item_27 : decode cX7_item 27 = .ok (.aload_n 0, 1) := by decide +kernel
theorem dX7_item_28 : decode cX7_item 28 = .ok (.getfield 59, 3) := by decide +kernel
theorem dX7_item_31 : decode cX7_item 31 = .ok (.iload_n 1, 1) := by decide +kernel
theorem dX7_item_32 : decode cX7_item 32 = .ok (.aaload, 1) := by decide +kernel
theorem dX7_item_33 : decode cX7_item 33 = .ok (.iload_n 2, 1) := by decide +kernel
theorem dX7_item_34 : decode cX7_item 34 = .ok (.invokevirtual 334, 3) := by decide +kernel
theorem dX7_item_37 : decode cX7_item 37 = .ok (.ifCond .eq 17, 3) := by decide +kernel
theorem dX7_item_40 : decode cX7_item 40 = .ok (.aload_n 0, 1) := by decide +kernel
theorem dX7_item_41 : decode cX7_item 41 = .ok (.getfield 59, 3) := by decide +kernel
theorem dX7_item_44 : decode cX7_item 44 = .ok (.iload_n 1, 1) := by decide +kernel
theorem dX7_item_45 : decode cX7_item 45 = .ok (.aaload, 1) := by decide +kernel
theorem dX7_item_46 : decode cX7_item 46 = .ok (.getfield 246, 3) := by decide +kernel
theorem dX7_item_49 : decode cX7_item 49 = .ok (.iload_n 2, 1) := by decide +kernel
theorem dX7_item_50 : decode cX7_item 50 = .ok (.laload, 1) := by decide +kernel
theorem dX7_item_51 : decode cX7_item 51 = .ok (.goto 6, 3) := by decide +kernel
theorem dX7_item_54 : decode cX7_item 54 = .ok (.ldc2_w 337, 3) := by decide +kernel
theorem dX7_item_57 : decode cX7_item 57 = .ok (.lreturn, 1) := by decide +kernel
def f_X7_item (N : Nat) (x1 : Int32) (x2 : Int32) (M : Mem) : Option (Int64) := bd (f_X7_isSheet N x1 M) (fun v1 => if v1 = 0 then (some (-4611686018427387906 : Int64)) else (ck (inb x1 4) (bd (f_X5_isMissing N (sheetC x1.toNatClampNeg) M) (fun v4 => if v4 = 0 then (ck (inb x1 4) (bd (f_X5_hasNumber N (sheetC x1.toNatClampNeg) x2 M) (fun v7 => if v7 = 0 then (some (-4611686018427387916 : Int64)) else (ck (inb x1 4) (ck (inb x2 40) (some (M.2 ((sheetC x1.toNatClampNeg) + 1) x2.toNatClampNeg))))))) else (some (-4611686018427387915 : Int64))))))
set_option maxRecDepth 100000 in
set_option maxHeartbeats 4000000 in
theorem c_X7_item {l : Launch} {D : va_G} {ac : Nat → ClassId} {A : Nat → Prop} {ad : Nat → Nat} {rest : va_W} (N : Nat) (x1 : Int32) (x2 : Int32)  (M : Mem) (r0 : Int64) (hf : f_X7_item N x1 x2 M = some r0) : CtJ l D ac A tabX ad rest yX7_item cX7_item 3  3 [.ref (ad 0), .int x1, .int x2] M r0 M := by
  refine ct_ofJ (own := RX7) (by decide +kernel) rfl (Nat.le_of_ble_eq_true rfl) ?_
  intro p e s m args below meth c C
  unfold f_X7_item at hf
  refine a_L (L' := [(0, .ref (ad 0)), (1, .int x1), (2, .int x2)]) rfl ?_
  refine a_iload_n (pc := 0) C dX7_item_0 1 rfl ?_
  refine a_callS_Ir (pc := 1) (d' := 2) C dX7_item_1 ml_X7_243 mc_X7_isSheet ms_X7_isSheet [.int x1] rfl (Nat.le_of_ble_eq_true rfl) (Nat.le_of_ble_eq_true rfl) rfl (Nat.le_of_ble_eq_true rfl) (fun r h => c_X7_isSheet N x1  _  r h) hf (fun v1 hf => ?_)
  refine a_if_ne (pc := 4) 11 C dX7_item_4 (by decide) hf (fun hf => ?_) (fun hf => ?_)
  · refine a_aload_n (pc := 11) C dX7_item_11 0 rfl ?_
    refine a_getR (pc := 12) C dX7_item_12 fl_X7_59 tx_0 rfl ?_
    refine a_iload_n (pc := 15) C dX7_item_15 1 rfl ?_
    have hx3 := (ck_some hf).1
    refine a_aald (pc := 16) C dX7_item_16 tx_39 rfl hf (fun hf => ?_)
    refine a_callV_Ir (pc := 17) (d' := 1) C dX7_item_17 ml_X7_271 mc_X5_isMissing mv_X5_isMissing (sheet_at hx3).1 rfl [] rfl (Nat.le_of_ble_eq_true rfl) (Nat.le_of_ble_eq_true rfl) rfl (Nat.le_of_ble_eq_true rfl) (fun r h => c_X5_isMissing N (sheetC x1.toNatClampNeg) (sheet_at hx3) _  r h) hf (fun v4 hf => ?_)
    refine a_if_eq (pc := 20) 27 C dX7_item_20 (by decide) hf (fun hf => ?_) (fun hf => ?_)
    · refine a_aload_n (pc := 27) C dX7_item_27 0 rfl ?_
      refine a_getR (pc := 28) C dX7_item_28 fl_X7_59 tx_0 rfl ?_
      refine a_iload_n (pc := 31) C dX7_item_31 1 rfl ?_
      have hx6 := (ck_some hf).1
      refine a_aald (pc := 32) C dX7_item_32 tx_39 rfl hf (fun hf => ?_)
      refine a_iload_n (pc := 33) C dX7_item_33 2 rfl ?_
      refine a_callV_Ir (pc := 34) (d' := 1) C dX7_item_34 ml_X7_334 mc_X5_hasNumber mv_X5_hasNumber (sheet_at hx6).1 rfl [.int x2] rfl (Nat.le_of_ble_eq_true rfl) (Nat.le_of_ble_eq_true rfl) rfl (Nat.le_of_ble_eq_true rfl) (fun r h => c_X5_hasNumber N (sheetC x1.toNatClampNeg) x2 (sheet_at hx6) _  r h) hf (fun v7 hf => ?_)
      refine a_if_eq (pc := 37) 54 C dX7_item_37 (by decide) hf (fun hf => ?_) (fun hf => ?_)
      · refine a_ldc2 (pc := 54) C dX7_item_54 cj_X7_337 ?_
        exact a_lret (pc := 57) C dX7_item_57 (Option.some.inj hf) rfl
      · refine a_aload_n (pc := 40) C dX7_item_40 0 rfl ?_
        refine a_getR (pc := 41) C dX7_item_41 fl_X7_59 tx_0 rfl ?_
        refine a_iload_n (pc := 44) C dX7_item_44 1 rfl ?_
        have hx9 := (ck_some hf).1
        refine a_aald (pc := 45) C dX7_item_45 tx_39 rfl hf (fun hf => ?_)
        refine a_getR (pc := 46) C dX7_item_46 fl_X7_246 (sheet_at hx9).1 rfl ?_
        refine a_iload_n (pc := 49) C dX7_item_49 2 rfl ?_
        refine a_lald (pc := 50) C dX7_item_50 (sheet_at hx9).2 hf (fun hf => ?_)
        refine a_goto (pc := 51) 57 C dX7_item_51 (by decide) ?_
        exact a_lret (pc := 57) C dX7_item_57 (Option.some.inj hf) rfl
    · refine a_ldc2 (pc := 23) C dX7_item_23 cj_X7_300 ?_
      exact a_lret (pc := 26) C dX7_item_26 (Option.some.inj hf) rfl
  · refine a_ldc2 (pc := 7) C dX7_item_7 cj_X7_125 ?_
    exact a_lret (pc := 10) C dX7_item_10 (Option.some.inj hf) rfl
theorem dX7_copy_0 : decode cX7_copy 0 = .ok (.iload_n 1, 1) := by decide +kernel
theorem dX7_copy_1 : decode cX7_copy 1 = .ok (.invokestatic 243, 3) := by decide +kernel
theorem dX7_copy_4 : decode cX7_copy 4 = .ok (.ifCond .eq 10, 3) := by decide +kernel
theorem dX7_copy_7 : decode cX7_copy 7 = .ok (.iload_n 3, 1) := by decide +kernel
theorem dX7_copy_8 : decode cX7_copy 8 = .ok (.invokestatic 243, 3) := by decide +kernel
theorem dX7_copy_11 : decode cX7_copy 11 = .ok (.ifCond .ne 6, 3) := by decide +kernel
theorem dX7_copy_14 : decode cX7_copy 14 = .ok (.bipush (-2), 2) := by decide +kernel
theorem dX7_copy_16 : decode cX7_copy 16 = .ok (.ireturn, 1) := by decide +kernel
theorem dX7_copy_17 : decode cX7_copy 17 = .ok (.aload_n 0, 1) := by decide +kernel
theorem dX7_copy_18 : decode cX7_copy 18 = .ok (.getfield 59, 3) := by decide +kernel
theorem dX7_copy_21 : decode cX7_copy 21 = .ok (.iload_n 1, 1) := by decide +kernel
theorem dX7_copy_22 : decode cX7_copy 22 = .ok (.aaload, 1) := by decide +kernel
theorem dX7_copy_23 : decode cX7_copy 23 = .ok (.astore 6, 2) := by decide +kernel
theorem dX7_copy_25 : decode cX7_copy 25 = .ok (.aload_n 0, 1) := by decide +kernel
theorem dX7_copy_26 : decode cX7_copy 26 = .ok (.getfield 59, 3) := by decide +kernel
theorem dX7_copy_29 : decode cX7_copy 29 = .ok (.iload_n 3, 1) := by decide +kernel
theorem dX7_copy_30 : decode cX7_copy 30 = .ok (.aaload, 1) := by decide +kernel
theorem dX7_copy_31 : decode cX7_copy 31 = .ok (.astore 7, 2) := by decide +kernel
theorem dX7_copy_33 : decode cX7_copy 33 = .ok (.aload 6, 2) := by decide +kernel
theorem dX7_copy_35 : decode cX7_copy 35 = .ok (.invokevirtual 271, 3) := by decide +kernel
theorem dX7_copy_38 : decode cX7_copy 38 = .ok (.ifCond .ne 11, 3) := by decide +kernel
theorem dX7_copy_41 : decode cX7_copy 41 = .ok (.aload 7, 2) := by decide +kernel
theorem dX7_copy_43 : decode cX7_copy 43 = .ok (.invokevirtual 271, 3) := by decide +kernel
theorem dX7_copy_46 : decode cX7_copy 46 = .ok (.ifCond .eq 6, 3) := by decide +kernel
theorem dX7_copy_49 : decode cX7_copy 49 = .ok (.bipush (-11), 2) := by decide +kernel
theorem dX7_copy_51 : decode cX7_copy 51 = .ok (.ireturn, 1) := by decide +kernel
theorem dX7_copy_52 : decode cX7_copy 52 = .ok (.aload 6, 2) := by decide +kernel
theorem dX7_copy_54 : decode cX7_copy 54 = .ok (.getfield 249, 3) := by decide +kernel
theorem dX7_copy_57 : decode cX7_copy 57 = .ok (.aload 7, 2) := by decide +kernel
theorem dX7_copy_59 : decode cX7_copy 59 = .ok (.getfield 249, 3) := by decide +kernel
theorem dX7_copy_62 : decode cX7_copy 62 = .ok (.if_icmp .eq 6, 3) := by decide +kernel
theorem dX7_copy_65 : decode cX7_copy 65 = .ok (.bipush (-13), 2) := by decide +kernel
theorem dX7_copy_67 : decode cX7_copy 67 = .ok (.ireturn, 1) := by decide +kernel
theorem dX7_copy_68 : decode cX7_copy 68 = .ok (.aload 6, 2) := by decide +kernel
theorem dX7_copy_70 : decode cX7_copy 70 = .ok (.iload_n 2, 1) := by decide +kernel
theorem dX7_copy_71 : decode cX7_copy 71 = .ok (.iload 5, 2) := by decide +kernel
theorem dX7_copy_73 : decode cX7_copy 73 = .ok (.invokevirtual 339, 3) := by decide +kernel
theorem dX7_copy_76 : decode cX7_copy 76 = .ok (.ifCond .eq 15, 3) := by decide +kernel
theorem dX7_copy_79 : decode cX7_copy 79 = .ok (.aload 7, 2) := by decide +kernel
theorem dX7_copy_81 : decode cX7_copy 81 = .ok (.iload 4, 2) := by decide +kernel
theorem dX7_copy_83 : decode cX7_copy 83 = .ok (.iload 5, 2) := by decide +kernel
theorem dX7_copy_85 : decode cX7_copy 85 = .ok (.invokevirtual 339, 3) := by decide +kernel
theorem dX7_copy_88 : decode cX7_copy 88 = .ok (.ifCond .ne 6, 3) := by decide +kernel
theorem dX7_copy_91 : decode cX7_copy 91 = .ok (.bipush (-12), 2) := by decide +kernel
theorem dX7_copy_93 : decode cX7_copy 93 = .ok (.ireturn, 1) := by decide +kernel
theorem dX7_copy_94 : decode cX7_copy 94 = .ok (.aload 6, 2) := by decide +kernel
theorem dX7_copy_96 : decode cX7_copy 96 = .ok (.getfield 246, 3) := by decide +kernel
theorem dX7_copy_99 : decode cX7_copy 99 = .ok (.iload_n 2, 1) := by decide +kernel
theorem dX7_copy_100 : decode cX7_copy 100 = .ok (.aload 7, 2) := by decide +kernel
theorem dX7_copy_102 : decode cX7_copy 102 = .ok (.getfield 246, 3) := by decide +kernel
theorem dX7_copy_105 : decode cX7_copy 105 = .ok (.iload 4, 2) := by decide +kernel
theorem dX7_copy_107 : decode cX7_copy 107 = .ok (.iload 5, 2) := by decide +kernel
theorem dX7_copy_109 : decode cX7_copy 109 = .ok (.invokestatic 342, 3) := by decide +kernel
theorem dX7_copy_112 : decode cX7_copy 112 = .ok (.iload 5, 2) := by decide +kernel
theorem dX7_copy_114 : decode cX7_copy 114 = .ok (.ireturn, 1) := by decide +kernel
def f_X7_copy (N : Nat) (x1 : Int32) (x2 : Int32) (x3 : Int32) (x4 : Int32) (x5 : Int32) (M : Mem) : Option (Int32 × Mem) := bd (f_X7_isSheet N x1 M) (fun v1 => if v1 = 0 then (some ((-2 : Int32), M)) else (bd (f_X7_isSheet N x3 M) (fun v3 => if v3 = 0 then (some ((-2 : Int32), M)) else (ck (inb x1 4) (ck (inb x3 4) (bd (f_X5_isMissing N (sheetC x1.toNatClampNeg) M) (fun v7 => if v7 = 0 then (bd (f_X5_isMissing N (sheetC x3.toNatClampNeg) M) (fun v9 => if v9 = 0 then (if (M.1 (sheetC x1.toNatClampNeg) 0) = (M.1 (sheetC x3.toNatClampNeg) 0) then (bd (f_X5_hasStretch N (sheetC x1.toNatClampNeg) x2 x5 M) (fun v11 => if v11 = 0 then (some ((-12 : Int32), M)) else (bd (f_X5_hasStretch N (sheetC x3.toNatClampNeg) x4 x5 M) (fun v13 => if v13 = 0 then (some ((-12 : Int32), M)) else (ck (cpOk x2 x4 x5 40 40) (nm (putJ M ((sheetC x3.toNatClampNeg) + 1) (va_cpy (M.2 ((sheetC x1.toNatClampNeg) + 1)) (M.2 ((sheetC x3.toNatClampNeg) + 1)) x2.toNatClampNeg x4.toNatClampNeg x5.toNatClampNeg)) (fun M15 => some (x5, M15)))))))) else (some ((-13 : Int32), M))) else (some ((-11 : Int32), M)))) else (some ((-11 : Int32), M)))))))))
set_option maxRecDepth 100000 in
set_option maxHeartbeats 4000000 in
theorem c_X7_copy {l : Launch} {D : va_G} {ac : Nat → ClassId} {A : Nat → Prop} {ad : Nat → Nat} {rest : va_W} (N : Nat) (x1 : Int32) (x2 : Int32) (x3 : Int32) (x4 : Int32) (x5 : Int32)  (M : Mem) (r0 : Int32) (M0 : Mem) (hf : f_X7_copy N x1 x2 x3 x4 x5 M = some (r0, M0)) : CtI l D ac A tabX ad rest yX7_copy cX7_copy 8 .int 3 [.ref (ad 0), .int x1, .int x2, .int x3, .int x4, .int x5] M r0 M0 := by
  refine ct_ofI (own := RX7) (by decide +kernel) rfl (Nat.le_of_ble_eq_true rfl) ?_
  intro p e s m args below meth c C
  unfold f_X7_copy at hf
  refine a_L (L' := [(0, .ref (ad 0)), (1, .int x1), (2, .int x2), (3, .int x3), (4, .int x4), (5, .int x5)]) rfl ?_
  refine a_iload_n (pc := 0) C dX7_copy_0 1 rfl ?_
  refine a_callS_Ir (pc := 1) (d' := 2) C dX7_copy_1 ml_X7_243 mc_X7_isSheet ms_X7_isSheet [.int x1] rfl (Nat.le_of_ble_eq_true rfl) (Nat.le_of_ble_eq_true rfl) rfl (Nat.le_of_ble_eq_true rfl) (fun r h => c_X7_isSheet N x1  _  r h) hf (fun v1 hf => ?_)
  refine a_if_eq (pc := 4) 14 C dX7_copy_4 (by decide) hf (fun hf => ?_) (fun hf => ?_)
  · refine a_bipush (pc := 14) (v := (-2)) C dX7_copy_14 (by decide) ?_
    exact a_iret (pc := 16) C dX7_copy_16 (so_1 hf) (so_2 hf)
  · refine a_iload_n (pc := 7) C dX7_copy_7 3 rfl ?_
    refine a_callS_Ir (pc := 8) (d' := 2) C dX7_copy_8 ml_X7_243 mc_X7_isSheet ms_X7_isSheet [.int x3] rfl (Nat.le_of_ble_eq_true rfl) (Nat.le_of_ble_eq_true rfl) rfl (Nat.le_of_ble_eq_true rfl) (fun r h => c_X7_isSheet N x3  _  r h) hf (fun v3 hf => ?_)
    refine a_if_ne (pc := 11) 17 C dX7_copy_11 (by decide) hf (fun hf => ?_) (fun hf => ?_)
    · refine a_aload_n (pc := 17) C dX7_copy_17 0 rfl ?_
      refine a_getR (pc := 18) C dX7_copy_18 fl_X7_59 tx_0 rfl ?_
      refine a_iload_n (pc := 21) C dX7_copy_21 1 rfl ?_
      have hx5 := (ck_some hf).1
      refine a_aald (pc := 22) C dX7_copy_22 tx_39 rfl hf (fun hf => ?_)
      refine a_astore (pc := 23) [(6, .ref (ad (sheetC x1.toNatClampNeg))), (0, .ref (ad 0)), (1, .int x1), (2, .int x2), (3, .int x3), (4, .int x4), (5, .int x5)] C dX7_copy_23 (by decide) rfl ?_
      refine a_aload_n (pc := 25) C dX7_copy_25 1 rfl ?_
      refine a_getR (pc := 26) C dX7_copy_26 fl_X7_59 tx_0 rfl ?_
      refine a_iload_n (pc := 29) C dX7_copy_29 4 rfl ?_
      have hx6 := (ck_some hf).1
      refine a_aald (pc := 30) C dX7_copy_30 tx_39 rfl hf (fun hf => ?_)
      refine a_astore (pc := 31) [(7, .ref (ad (sheetC x3.toNatClampNeg))), (6, .ref (ad (sheetC x1.toNatClampNeg))), (0, .ref (ad 0)), (1, .int x1), (2, .int x2), (3, .int x3), (4, .int x4), (5, .int x5)] C dX7_copy_31 (by decide) rfl ?_
      refine a_aload (pc := 33) C dX7_copy_33 1 rfl ?_
      refine a_callV_Ir (pc := 35) (d' := 1) C dX7_copy_35 ml_X7_271 mc_X5_isMissing mv_X5_isMissing (sheet_at hx5).1 rfl [] rfl (Nat.le_of_ble_eq_true rfl) (Nat.le_of_ble_eq_true rfl) rfl (Nat.le_of_ble_eq_true rfl) (fun r h => c_X5_isMissing N (sheetC x1.toNatClampNeg) (sheet_at hx5) _  r h) hf (fun v7 hf => ?_)
      refine a_if_ne (pc := 38) 49 C dX7_copy_38 (by decide) hf (fun hf => ?_) (fun hf => ?_)
      · refine a_bipush (pc := 49) (v := (-11)) C dX7_copy_49 (by decide) ?_
        exact a_iret (pc := 51) C dX7_copy_51 (so_1 hf) (so_2 hf)
      · refine a_aload (pc := 41) C dX7_copy_41 0 rfl ?_
        refine a_callV_Ir (pc := 43) (d' := 1) C dX7_copy_43 ml_X7_271 mc_X5_isMissing mv_X5_isMissing (sheet_at hx6).1 rfl [] rfl (Nat.le_of_ble_eq_true rfl) (Nat.le_of_ble_eq_true rfl) rfl (Nat.le_of_ble_eq_true rfl) (fun r h => c_X5_isMissing N (sheetC x3.toNatClampNeg) (sheet_at hx6) _  r h) hf (fun v9 hf => ?_)
        refine a_if_eq (pc := 46) 52 C dX7_copy_46 (by decide) hf (fun hf => ?_) (fun hf => ?_)
        · refine a_aload (pc := 52) C dX7_copy_52 1 rfl ?_
          refine a_getI (pc := 54) C dX7_copy_54 fl_X7_249 (sheet_at hx5).1 rfl ?_
          refine a_aload (pc := 57) C dX7_copy_57 0 rfl ?_
          refine a_getI (pc := 59) C dX7_copy_59 fl_X7_249 (sheet_at hx6).1 rfl ?_
          refine a_icmp_eq (pc := 62) 68 C dX7_copy_62 (by decide) hf (fun hf => ?_) (fun hf => ?_)
          · refine a_aload (pc := 68) C dX7_copy_68 1 rfl ?_
            refine a_iload_n (pc := 70) C dX7_copy_70 4 rfl ?_
            refine a_iload (pc := 71) C dX7_copy_71 7 rfl ?_
            refine a_callV_Ir (pc := 73) (d' := 1) C dX7_copy_73 ml_X7_339 mc_X5_hasStretch mv_X5_hasStretch (sheet_at hx5).1 rfl [.int x2, .int x5] rfl (Nat.le_of_ble_eq_true rfl) (Nat.le_of_ble_eq_true rfl) rfl (Nat.le_of_ble_eq_true rfl) (fun r h => c_X5_hasStretch N (sheetC x1.toNatClampNeg) x2 x5 (sheet_at hx5) _  r h) hf (fun v11 hf => ?_)
            refine a_if_eq (pc := 76) 91 C dX7_copy_76 (by decide) hf (fun hf => ?_) (fun hf => ?_)
            · refine a_bipush (pc := 91) (v := (-12)) C dX7_copy_91 (by decide) ?_
              exact a_iret (pc := 93) C dX7_copy_93 (so_1 hf) (so_2 hf)
            · refine a_aload (pc := 79) C dX7_copy_79 0 rfl ?_
              refine a_iload (pc := 81) C dX7_copy_81 6 rfl ?_
              refine a_iload (pc := 83) C dX7_copy_83 7 rfl ?_
              refine a_callV_Ir (pc := 85) (d' := 1) C dX7_copy_85 ml_X7_339 mc_X5_hasStretch mv_X5_hasStretch (sheet_at hx6).1 rfl [.int x4, .int x5] rfl (Nat.le_of_ble_eq_true rfl) (Nat.le_of_ble_eq_true rfl) rfl (Nat.le_of_ble_eq_true rfl) (fun r h => c_X5_hasStretch N (sheetC x3.toNatClampNeg) x4 x5 (sheet_at hx6) _  r h) hf (fun v13 hf => ?_)
              refine a_if_ne (pc := 88) 94 C dX7_copy_88 (by decide) hf (fun hf => ?_) (fun hf => ?_)
              · refine a_aload (pc := 94) C dX7_copy_94 1 rfl ?_
                refine a_getR (pc := 96) C dX7_copy_96 fl_X7_246 (sheet_at hx5).1 rfl ?_
                refine a_iload_n (pc := 99) C dX7_copy_99 4 rfl ?_
                refine a_aload (pc := 100) C dX7_copy_100 0 rfl ?_
                refine a_getR (pc := 102) C dX7_copy_102 fl_X7_246 (sheet_at hx6).1 rfl ?_
                refine a_iload (pc := 105) C dX7_copy_105 6 rfl ?_
                refine a_iload (pc := 107) C dX7_copy_107 7 rfl ?_
                refine a_copyJ (pc := 109) C dX7_copy_109 ml_X7_342 (sheet_at hx5).2 (sheet_at hx6).2 (Nat.le_of_ble_eq_true rfl) (Nat.le_of_ble_eq_true rfl) hf (fun M15 hf => ?_)
                refine a_iload (pc := 112) C dX7_copy_112 7 rfl ?_
                exact a_iret (pc := 114) C dX7_copy_114 (so_1 hf) (so_2 hf)
              · refine a_bipush (pc := 91) (v := (-12)) C dX7_copy_91 (by decide) ?_
                exact a_iret (pc := 93) C dX7_copy_93 (so_1 hf) (so_2 hf)
          · refine a_bipush (pc := 65) (v := (-13)) C dX7_copy_65 (by decide) ?_
            exact a_iret (pc := 67) C dX7_copy_67 (so_1 hf) (so_2 hf)
        · refine a_bipush (pc := 49) (v := (-11)) C dX7_copy_49 (by decide) ?_
          exact a_iret (pc := 51) C dX7_copy_51 (so_1 hf) (so_2 hf)
    · refine a_bipush (pc := 14) (v := (-2)) C dX7_copy_14 (by decide) ?_
      exact a_iret (pc := 16) C dX7_copy_16 (so_1 hf) (so_2 hf)
theorem dX7_refusalOf_0 : decode cX7_refusalOf 0 = .ok (.iload_n 1, 1) := by decide +kernel
theorem dX7_refusalOf_1 : decode cX7_refusalOf 1 = .ok (.invokestatic 243, 3) := by decide +kernel
theorem dX7_refusalOf_4 : decode cX7_refusalOf 4 = .ok (.ifCond .eq 23, 3) := by decide +kernel
theorem dX7_refusalOf_7 : decode cX7_refusalOf 7 = .ok (.iload_n 2, 1) := by decide +kernel
theorem dX7_refusalOf_8 : decode cX7_refusalOf 8 = .ok (.iconst 1, 1) := by decide +kernel
theorem dX7_refusalOf_9 : decode cX7_refusalOf 9 = .ok (.bipush 40, 2) := by decide +kernel
theorem dX7_refusalOf_11 : decode cX7_refusalOf 11 = .ok (.invokestatic 64, 3) := by decide +kernel
theorem dX7_refusalOf_14 : decode cX7_refusalOf 14 = .ok (.ifCond .eq 13, 3) := by decide +kernel
theorem dX7_refusalOf_17 : decode cX7_refusalOf 17 = .ok (.iload_n 3, 1) := by decide +kernel
theorem dX7_refusalOf_18 : decode cX7_refusalOf 18 = .ok (.iconst 1, 1) := by decide +kernel
theorem dX7_refusalOf_19 : decode cX7_refusalOf 19 = .ok (.bipush 6, 2) := by decide +kernel
theorem dX7_refusalOf_21 : decode cX7_refusalOf 21 = .ok (.invokestatic 64, 3) := by decide +kernel
theorem dX7_refusalOf_24 : decode cX7_refusalOf 24 = .ok (.ifCond .ne 6, 3) := by decide +kernel
theorem dX7_refusalOf_27 : decode cX7_refusalOf 27 = .ok (.bipush (-2), 2) := by decide +kernel
theorem dX7_refusalOf_29 : decode cX7_refusalOf 29 = .ok (.ireturn, 1) := by decide +kernel
theorem dX7_refusalOf_30 : decode cX7_refusalOf 30 = .ok (.aload_n 0, 1) := by decide +kernel
theorem dX7_refusalOf_31 : decode cX7_refusalOf 31 = .ok (.getfield 59, 3) := by decide +kernel
theorem dX7_refusalOf_34 : decode cX7_refusalOf 34 = .ok (.iload_n 1, 1) := by decide +kernel
theorem dX7_refusalOf_35 : decode cX7_refusalOf 35 = .ok (.aaload, 1) := by decide +kernel
theorem dX7_refusalOf_36 : decode cX7_refusalOf 36 = .ok (.invokevirtual 271, 3) := by decide +kernel
theorem dX7_refusalOf_39 : decode cX7_refusalOf 39 = .ok (.ifCond .eq 6, 3) := by decide +kernel
theorem dX7_refusalOf_42 : decode cX7_refusalOf 42 = .ok (.bipush (-11), 2) := by decide +kernel
theorem dX7_refusalOf_44 : decode cX7_refusalOf 44 = .ok (.ireturn, 1) := by decide +kernel
theorem dX7_refusalOf_45 : decode cX7_refusalOf 45 = .ok (.aload_n 0, 1) := by decide +kernel
theorem dX7_refusalOf_46 : decode cX7_refusalOf 46 = .ok (.getfield 59, 3) := by decide +kernel
theorem dX7_refusalOf_49 : decode cX7_refusalOf 49 = .ok (.iload_n 1, 1) := by decide +kernel
theorem dX7_refusalOf_50 : decode cX7_refusalOf 50 = .ok (.aaload, 1) := by decide +kernel
theorem dX7_refusalOf_51 : decode cX7_refusalOf 51 = .ok (.getfield 252, 3) := by decide +kernel
theorem dX7_refusalOf_54 : decode cX7_refusalOf 54 = .ok (.aload_n 0, 1) := by decide +kernel
theorem dX7_refusalOf_55 : decode cX7_refusalOf 55 = .ok (.getfield 12, 3) := by decide +kernel
theorem dX7_refusalOf_58 : decode cX7_refusalOf 58 = .ok (.getfield 68, 3) := by decide +kernel
theorem dX7_refusalOf_61 : decode cX7_refusalOf 61 = .ok (.if_icmp .ge 8, 3) := by decide +kernel
theorem dX7_refusalOf_64 : decode cX7_refusalOf 64 = .ok (.bipush (-12), 2) := by decide +kernel
theorem dX7_refusalOf_66 : decode cX7_refusalOf 66 = .ok (.goto 4, 3) := by decide +kernel
theorem dX7_refusalOf_69 : decode cX7_refusalOf 69 = .ok (.iconst 0, 1) := by decide +kernel
theorem dX7_refusalOf_70 : decode cX7_refusalOf 70 = .ok (.ireturn, 1) := by decide +kernel
def f_X7_refusalOf (N : Nat) (x1 : Int32) (x2 : Int32) (x3 : Int32) (M : Mem) : Option (Int32) := bd (f_X7_isSheet N x1 M) (fun v1 => if v1 = 0 then (some (-2 : Int32)) else (bd (f_X7_within N x2 (1 : Int32) (40 : Int32) M) (fun v3 => if v3 = 0 then (some (-2 : Int32)) else (bd (f_X7_within N x3 (1 : Int32) (6 : Int32) M) (fun v5 => if v5 = 0 then (some (-2 : Int32)) else (ck (inb x1 4) (bd (f_X5_isMissing N (sheetC x1.toNatClampNeg) M) (fun v8 => if v8 = 0 then (ck (inb x1 4) (if (M.1 1 0) ≤ (M.1 (sheetC x1.toNatClampNeg) 1) then (some (0 : Int32)) else (some (-12 : Int32)))) else (some (-11 : Int32))))))))))
set_option maxRecDepth 100000 in
set_option maxHeartbeats 4000000 in
theorem c_X7_refusalOf {l : Launch} {D : va_G} {ac : Nat → ClassId} {A : Nat → Prop} {ad : Nat → Nat} {rest : va_W} (N : Nat) (x1 : Int32) (x2 : Int32) (x3 : Int32)  (M : Mem) (r0 : Int32) (hf : f_X7_refusalOf N x1 x2 x3 M = some r0) : CtI l D ac A tabX ad rest yX7_refusalOf cX7_refusalOf 4 .int 3 [.ref (ad 0), .int x1, .int x2, .int x3] M r0 M := by
  refine ct_ofI (own := RX7) (by decide +kernel) rfl (Nat.le_of_ble_eq_true rfl) ?_
  intro p e s m args below meth c C
  unfold f_X7_refusalOf at hf
  refine a_L (L' := [(0, .ref (ad 0)), (1, .int x1), (2, .int x2), (3, .int x3)]) rfl ?_
  refine a_iload_n (pc := 0) C dX7_refusalOf_0 1 rfl ?_
  refine a_callS_Ir (pc := 1) (d' := 2) C dX7_refusalOf_1 ml_X7_243 mc_X7_isSheet ms_X7_isSheet [.int x1] rfl (Nat.le_of_ble_eq_true rfl) (Nat.le_of_ble_eq_true rfl) rfl (Nat.le_of_ble_eq_true rfl) (fun r h => c_X7_isSheet N x1  _  r h) hf (fun v1 hf => ?_)
  refine a_if_eq (pc := 4) 27 C dX7_refusalOf_4 (by decide) hf (fun hf => ?_) (fun hf => ?_)
  · refine a_bipush (pc := 27) (v := (-2)) C dX7_refusalOf_27 (by decide) ?_
    exact a_iret (pc := 29) C dX7_refusalOf_29 (Option.some.inj hf) rfl
  · refine a_iload_n (pc := 7) C dX7_refusalOf_7 2 rfl ?_
    refine a_iconst (pc := 8) (v := 1) C dX7_refusalOf_8 (by decide) ?_
    refine a_bipush (pc := 9) (v := 40) C dX7_refusalOf_9 (by decide) ?_
    refine a_callS_Ir (pc := 11) (d' := 1) C dX7_refusalOf_11 ml_X7_64 mc_X7_within ms_X7_within [.int x2, .int (1 : Int32), .int (40 : Int32)] rfl (Nat.le_of_ble_eq_true rfl) (Nat.le_of_ble_eq_true rfl) rfl (Nat.le_of_ble_eq_true rfl) (fun r h => c_X7_within N x2 (1 : Int32) (40 : Int32)  _  r h) hf (fun v3 hf => ?_)
    refine a_if_eq (pc := 14) 27 C dX7_refusalOf_14 (by decide) hf (fun hf => ?_) (fun hf => ?_)
    · refine a_bipush (pc := 27) (v := (-2)) C dX7_refusalOf_27 (by decide) ?_
      exact a_iret (pc := 29) C dX7_refusalOf_29 (Option.some.inj hf) rfl
    · refine a_iload_n (pc := 17) C dX7_refusalOf_17 3 rfl ?_
      refine a_iconst (pc := 18) (v := 1) C dX7_refusalOf_18 (by decide) ?_
      refine a_bipush (pc := 19) (v := 6) C dX7_refusalOf_19 (by decide) ?_
      refine a_callS_Ir (pc := 21) (d' := 1) C dX7_refusalOf_21 ml_X7_64 mc_X7_within ms_X7_within [.int x3, .int (1 : Int32), .int (6 : Int32)] rfl (Nat.le_of_ble_eq_true rfl) (Nat.le_of_ble_eq_true rfl) rfl (Nat.le_of_ble_eq_true rfl) (fun r h => c_X7_within N x3 (1 : Int32) (6 : Int32)  _  r h) hf (fun v5 hf => ?_)
      refine a_if_ne (pc := 24) 30 C dX7_refusalOf_24 (by decide) hf (fun hf => ?_) (fun hf => ?_)
      · refine a_aload_n (pc := 30) C dX7_refusalOf_30 0 rfl ?_
        refine a_getR (pc := 31) C dX7_refusalOf_31 fl_X7_59 tx_0 rfl ?_
        refine a_iload_n (pc := 34) C dX7_refusalOf_34 1 rfl ?_
        have hx7 := (ck_some hf).1
        refine a_aald (pc := 35) C dX7_refusalOf_35 tx_39 rfl hf (fun hf => ?_)
        refine a_callV_Ir (pc := 36) (d' := 1) C dX7_refusalOf_36 ml_X7_271 mc_X5_isMissing mv_X5_isMissing (sheet_at hx7).1 rfl [] rfl (Nat.le_of_ble_eq_true rfl) (Nat.le_of_ble_eq_true rfl) rfl (Nat.le_of_ble_eq_true rfl) (fun r h => c_X5_isMissing N (sheetC x1.toNatClampNeg) (sheet_at hx7) _  r h) hf (fun v8 hf => ?_)
        refine a_if_eq (pc := 39) 45 C dX7_refusalOf_39 (by decide) hf (fun hf => ?_) (fun hf => ?_)
        · refine a_aload_n (pc := 45) C dX7_refusalOf_45 0 rfl ?_
          refine a_getR (pc := 46) C dX7_refusalOf_46 fl_X7_59 tx_0 rfl ?_
          refine a_iload_n (pc := 49) C dX7_refusalOf_49 1 rfl ?_
          have hx10 := (ck_some hf).1
          refine a_aald (pc := 50) C dX7_refusalOf_50 tx_39 rfl hf (fun hf => ?_)
          refine a_getI (pc := 51) C dX7_refusalOf_51 fl_X7_252 (sheet_at hx10).1 rfl ?_
          refine a_aload_n (pc := 54) C dX7_refusalOf_54 0 rfl ?_
          refine a_getR (pc := 55) C dX7_refusalOf_55 fl_X7_12 tx_0 rfl ?_
          refine a_getI (pc := 58) C dX7_refusalOf_58 fl_X7_68 net_1.1 rfl ?_
          refine a_icmp_ge (pc := 61) 69 C dX7_refusalOf_61 (by decide) hf (fun hf => ?_) (fun hf => ?_)
          · refine a_iconst (pc := 69) (v := 0) C dX7_refusalOf_69 (by decide) ?_
            exact a_iret (pc := 70) C dX7_refusalOf_70 (Option.some.inj hf) rfl
          · refine a_bipush (pc := 64) (v := (-12)) C dX7_refusalOf_64 (by decide) ?_
            refine a_goto (pc := 66) 70 C dX7_refusalOf_66 (by decide) ?_
            exact a_iret (pc := 70) C dX7_refusalOf_70 (Option.some.inj hf) rfl
        · refine a_bipush (pc := 42) (v := (-11)) C dX7_refusalOf_42 (by decide) ?_
          exact a_iret (pc := 44) C dX7_refusalOf_44 (Option.some.inj hf) rfl
      · refine a_bipush (pc := 27) (v := (-2)) C dX7_refusalOf_27 (by decide) ?_
        exact a_iret (pc := 29) C dX7_refusalOf_29 (Option.some.inj hf) rfl
theorem dX7_firstWrong_0 : decode cX7_firstWrong 0 = .ok (.iconst 0, 1) := by decide +kernel
theorem dX7_firstWrong_1 : decode cX7_firstWrong 1 = .ok (.istore 4, 2) := by decide +kernel
theorem dX7_firstWrong_3 : decode cX7_firstWrong 3 = .ok (.iload 4, 2) := by decide +kernel
theorem dX7_firstWrong_5 : decode cX7_firstWrong 5 = .ok (.aload_n 0, 1) := by decide +kernel
theorem dX7_firstWrong_6 : decode cX7_firstWrong 6 = .ok (.getfield 12, 3) := by decide +kernel
theorem dX7_firstWrong_9 : decode cX7_firstWrong 9 = .ok (.getfield 68, 3) := by decide +kernel
theorem dX7_firstWrong_12 : decode cX7_firstWrong 12 = .ok (.if_icmp .ge 110, 3) := by decide +kernel
theorem dX7_firstWrong_15 : decode cX7_firstWrong 15 = .ok (.aload_n 1, 1) := by decide +kernel
theorem dX7_firstWrong_16 : decode cX7_firstWrong 16 = .ok (.getfield 246, 3) := by decide +kernel
theorem dX7_firstWrong_19 : decode cX7_firstWrong 19 = .ok (.iload 4, 2) := by decide +kernel
theorem dX7_firstWrong_21 : decode cX7_firstWrong 21 = .ok (.laload, 1) := by decide +kernel
theorem dX7_firstWrong_22 : decode cX7_firstWrong 22 = .ok (.lstore 5, 2) := by decide +kernel
theorem dX7_firstWrong_24 : decode cX7_firstWrong 24 = .ok (.lload 5, 2) := by decide +kernel
theorem dX7_firstWrong_26 : decode cX7_firstWrong 26 = .ok (.lconst 0, 1) := by decide +kernel
theorem dX7_firstWrong_27 : decode cX7_firstWrong 27 = .ok (.lcmp, 1) := by decide +kernel
theorem dX7_firstWrong_28 : decode cX7_firstWrong 28 = .ok (.ifCond .lt 11, 3) := by decide +kernel
theorem dX7_firstWrong_31 : decode cX7_firstWrong 31 = .ok (.lload 5, 2) := by decide +kernel
theorem dX7_firstWrong_33 : decode cX7_firstWrong 33 = .ok (.iload_n 2, 1) := by decide +kernel
theorem dX7_firstWrong_34 : decode cX7_firstWrong 34 = .ok (.i2l, 1) := by decide +kernel
theorem dX7_firstWrong_35 : decode cX7_firstWrong 35 = .ok (.lcmp, 1) := by decide +kernel
theorem dX7_firstWrong_36 : decode cX7_firstWrong 36 = .ok (.ifCond .lt 6, 3) := by decide +kernel
theorem dX7_firstWrong_39 : decode cX7_firstWrong 39 = .ok (.iload 4, 2) := by decide +kernel
theorem dX7_firstWrong_41 : decode cX7_firstWrong 41 = .ok (.ireturn, 1) := by decide +kernel
theorem dX7_firstWrong_42 : decode cX7_firstWrong 42 = .ok (.iconst 0, 1) := by decide +kernel
theorem dX7_firstWrong_43 : decode cX7_firstWrong 43 = .ok (.istore 7, 2) := by decide +kernel
theorem dX7_firstWrong_45 : decode cX7_firstWrong 45 = .ok (.iload 7, 2) := by decide +kernel
theorem dX7_firstWrong_47 : decode cX7_firstWrong 47 = .ok (.aload_n 0, 1) := by decide +kernel
theorem dX7_firstWrong_48 : decode cX7_firstWrong 48 = .ok (.getfield 12, 3) := by decide +kernel
theorem dX7_firstWrong_51 : decode cX7_firstWrong 51 = .ok (.getfield 90, 3) := by decide +kernel
theorem dX7_firstWrong_54 : decode cX7_firstWrong 54 = .ok (.if_icmp .ge 62, 3) := by decide +kernel
theorem dX7_firstWrong_57 : decode cX7_firstWrong 57 = .ok (.aload_n 0, 1) := by decide +kernel
theorem dX7_firstWrong_58 : decode cX7_firstWrong 58 = .ok (.getfield 12, 3) := by decide +kernel
theorem dX7_firstWrong_61 : decode cX7_firstWrong 61 = .ok (.getfield 117, 3) := by decide +kernel
theorem dX7_firstWrong_64 : decode cX7_firstWrong 64 = .ok (.iload 7, 2) := by decide +kernel
theorem dX7_firstWrong_66 : decode cX7_firstWrong 66 = .ok (.iaload, 1) := by decide +kernel
theorem dX7_firstWrong_67 : decode cX7_firstWrong 67 = .ok (.iload 4, 2) := by decide +kernel
theorem dX7_firstWrong_69 : decode cX7_firstWrong 69 = .ok (.if_icmp .ne 41, 3) := by decide +kernel
theorem dX7_firstWrong_72 : decode cX7_firstWrong 72 = .ok (.aload_n 1, 1) := by decide +kernel
theorem dX7_firstWrong_73 : decode cX7_firstWrong 73 = .ok (.getfield 246, 3) := by decide +kernel
theorem dX7_firstWrong_76 : decode cX7_firstWrong 76 = .ok (.aload_n 0, 1) := by decide +kernel
theorem dX7_firstWrong_77 : decode cX7_firstWrong 77 = .ok (.getfield 12, 3) := by decide +kernel
theorem dX7_firstWrong_80 : decode cX7_firstWrong 80 = .ok (.getfield 114, 3) := by decide +kernel
theorem dX7_firstWrong_83 : decode cX7_firstWrong 83 = .ok (.iload 7, 2) := by decide +kernel
theorem dX7_firstWrong_85 : decode cX7_firstWrong 85 = .ok (.iaload, 1) := by decide +kernel
theorem dX7_firstWrong_86 : decode cX7_firstWrong 86 = .ok (.laload, 1) := by decide +kernel
theorem dX7_firstWrong_87 : decode cX7_firstWrong 87 = .ok (.lload 5, 2) := by decide +kernel
theorem dX7_firstWrong_89 : decode cX7_firstWrong 89 = .ok (.iload_n 2, 1) := by decide +kernel
theorem dX7_firstWrong_90 : decode cX7_firstWrong 90 = .ok (.iload_n 3, 1) := by decide +kernel
theorem dX7_firstWrong_91 : decode cX7_firstWrong 91 = .ok (.aload_n 0, 1) := by decide +kernel
theorem dX7_firstWrong_92 : decode cX7_firstWrong 92 = .ok (.getfield 12, 3) := by decide +kernel
theorem dX7_firstWrong_95 : decode cX7_firstWrong 95 = .ok (.iload 7, 2) := by decide +kernel
theorem dX7_firstWrong_97 : decode cX7_firstWrong 97 = .ok (.invokevirtual 110, 3) := by decide +kernel
theorem dX7_firstWrong_100 : decode cX7_firstWrong 100 = .ok (.imul, 1) := by decide +kernel
theorem dX7_firstWrong_101 : decode cX7_firstWrong 101 = .ok (.invokestatic 351, 3) := by decide +kernel
theorem dX7_firstWrong_104 : decode cX7_firstWrong 104 = .ok (.ifCond .ne 6, 3) := by decide +kernel
theorem dX7_firstWrong_107 : decode cX7_firstWrong 107 = .ok (.iload 4, 2) := by decide +kernel
theorem dX7_firstWrong_109 : decode cX7_firstWrong 109 = .ok (.ireturn, 1) := by decide +kernel
theorem dX7_firstWrong_110 : decode cX7_firstWrong 110 = .ok (.iinc 7 1, 3) := by decide +kernel
theorem dX7_firstWrong_113 : decode cX7_firstWrong 113 = .ok (.goto (-68), 3) := by decide +kernel
theorem dX7_firstWrong_116 : decode cX7_firstWrong 116 = .ok (.iinc 4 1, 3) := by decide +kernel
theorem dX7_firstWrong_119 : decode cX7_firstWrong 119 = .ok (.goto (-116), 3) := by decide +kernel
theorem dX7_firstWrong_122 : decode cX7_firstWrong 122 = .ok (.iconst (-1), 1) := by decide +kernel
theorem dX7_firstWrong_123 : decode cX7_firstWrong 123 = .ok (.ireturn, 1) := by decide +kernel
def f_X7_firstWrong (N : Nat) (c1 : Nat) (x2 : Int32) (x3 : Int32) (M : Mem) : Option (Int32) := lp (fun (k3 : Int32 → Option (Int32)) (a3 : Int32) => if (M.1 1 0) ≤ a3 then (some (-1 : Int32)) else (ck (inb a3 40) (nm (M.2 (c1 + 1) a3.toNatClampNeg) (fun v1 => if (lg_cmp v1 (0 : Int64)) < 0 then (some a3) else (if (lg_cmp v1 x2.toInt64) < 0 then (lp (fun (k45 : Int32 → Option (Int32)) (a45 : Int32) => if (M.1 1 1) ≤ a45 then (nm (a3 + (1 : Int32)) (fun v2 => k3 v2)) else (ck (inb a45 10) (jn (fun (a110 : Unit) => nm (a45 + (1 : Int32)) (fun v3 => k45 v3)) (fun (k110 : Unit → Option (Int32)) => if (M.1 5 a45.toNatClampNeg) = a3 then (ck (inb a45 10) (ck (inb (M.1 4 a45.toNatClampNeg) 40) (bd (f_X1_gapOf N 1 a45 M) (fun v4 => bd (f_X7_areApart N (M.2 (c1 + 1) (M.1 4 a45.toNatClampNeg).toNatClampNeg) v1 x2 (x3 * v4) M) (fun v6 => if v6 = 0 then (some a3) else (k110 ())))))) else (k110 ()))))) N (0 : Int32)) else (some a3)))))) N (0 : Int32)
set_option maxRecDepth 100000 in
set_option maxHeartbeats 4000000 in
theorem c_X7_firstWrong {l : Launch} {D : va_G} {ac : Nat → ClassId} {A : Nat → Prop} {ad : Nat → Nat} {rest : va_W} (N : Nat) (c1 : Nat) (x2 : Int32) (x3 : Int32) (hc1 : SheetAt tabX c1) (M : Mem) (r0 : Int32) (hf : f_X7_firstWrong N c1 x2 x3 M = some r0) : CtI l D ac A tabX ad rest yX7_firstWrong cX7_firstWrong 8 .int 3 [.ref (ad 0), .ref (ad c1), .int x2, .int x3] M r0 M := by
  refine ct_ofI (own := RX7) (by decide +kernel) rfl (Nat.le_of_ble_eq_true rfl) ?_
  intro p e s m args below meth c C
  unfold f_X7_firstWrong at hf
  refine a_L (L' := [(0, .ref (ad 0)), (1, .ref (ad c1)), (2, .int x2), (3, .int x3)]) rfl ?_
  refine a_iconst (pc := 0) (v := 0) C dX7_firstWrong_0 (by decide) ?_
  refine a_istore (pc := 1) [(4, .int (0 : Int32)), (0, .ref (ad 0)), (1, .ref (ad c1)), (2, .int x2), (3, .int x3)] C dX7_firstWrong_1 (by decide) rfl ?_
  refine a_sub [1, 2, 3, 4, 0] rfl ?_
  refine a_lp 3 (fun a3 : Int32 => [(0, .ref (ad 0)), (1, .ref (ad c1)), (2, .int x2), (3, .int x3), (4, .int a3)]) (fun a3 : Int32 => []) (fun a3 : Int32 => M) (fun k3 a3 hk3 hf => ?_) N (0 : Int32) hf
  refine a_iload (pc := 3) C dX7_firstWrong_3 4 rfl ?_
  refine a_aload_n (pc := 5) C dX7_firstWrong_5 0 rfl ?_
  refine a_getR (pc := 6) C dX7_firstWrong_6 fl_X7_12 tx_0 rfl ?_
  refine a_getI (pc := 9) C dX7_firstWrong_9 fl_X7_68 net_1.1 rfl ?_
  refine a_icmp_ge (pc := 12) 122 C dX7_firstWrong_12 (by decide) hf (fun hf => ?_) (fun hf => ?_)
  · refine a_iconst (pc := 122) (v := (-1)) C dX7_firstWrong_122 (by decide) ?_
    exact a_iret (pc := 123) C dX7_firstWrong_123 (Option.some.inj hf) rfl
  · refine a_aload_n (pc := 15) C dX7_firstWrong_15 1 rfl ?_
    refine a_getR (pc := 16) C dX7_firstWrong_16 fl_X7_246 hc1.1 rfl ?_
    refine a_iload (pc := 19) C dX7_firstWrong_19 4 rfl ?_
    refine a_lald (pc := 21) C dX7_firstWrong_21 hc1.2 hf (fun hf => ?_)
    refine a_nml hf (fun v1 hf => ?_)
    refine a_lstore (pc := 22) [(5, .long v1), (0, .ref (ad 0)), (1, .ref (ad c1)), (2, .int x2), (3, .int x3), (4, .int a3)] C dX7_firstWrong_22 (by decide) rfl ?_
    refine a_lload (pc := 24) C dX7_firstWrong_24 0 rfl ?_
    refine a_lconst (pc := 26) (v := 0) C dX7_firstWrong_26 (by decide) ?_
    refine a_lcmp (pc := 27) C dX7_firstWrong_27 ?_
    refine a_if_lt (pc := 28) 39 C dX7_firstWrong_28 (by decide) hf (fun hf => ?_) (fun hf => ?_)
    · refine a_iload (pc := 39) C dX7_firstWrong_39 5 rfl ?_
      exact a_iret (pc := 41) C dX7_firstWrong_41 (Option.some.inj hf) rfl
    · refine a_lload (pc := 31) C dX7_firstWrong_31 0 rfl ?_
      refine a_iload_n (pc := 33) C dX7_firstWrong_33 3 rfl ?_
      refine a_i2l (pc := 34) C dX7_firstWrong_34 ?_
      refine a_lcmp (pc := 35) C dX7_firstWrong_35 ?_
      refine a_if_lt (pc := 36) 42 C dX7_firstWrong_36 (by decide) hf (fun hf => ?_) (fun hf => ?_)
      · refine a_iconst (pc := 42) (v := 0) C dX7_firstWrong_42 (by decide) ?_
        refine a_istore (pc := 43) [(7, .int (0 : Int32)), (5, .long v1), (0, .ref (ad 0)), (1, .ref (ad c1)), (2, .int x2), (3, .int x3), (4, .int a3)] C dX7_firstWrong_43 (by decide) rfl ?_
        refine a_sub [2, 3, 4, 5, 6, 1, 0] rfl ?_
        refine a_lp 45 (fun a45 : Int32 => [(0, .ref (ad 0)), (1, .ref (ad c1)), (2, .int x2), (3, .int x3), (4, .int a3), (5, .long v1), (7, .int a45)]) (fun a45 : Int32 => []) (fun a45 : Int32 => M) (fun k45 a45 hk45 hf => ?_) N (0 : Int32) hf
        refine a_iload (pc := 45) C dX7_firstWrong_45 6 rfl ?_
        refine a_aload_n (pc := 47) C dX7_firstWrong_47 0 rfl ?_
        refine a_getR (pc := 48) C dX7_firstWrong_48 fl_X7_12 tx_0 rfl ?_
        refine a_getI (pc := 51) C dX7_firstWrong_51 fl_X7_90 net_1.1 rfl ?_
        refine a_icmp_ge (pc := 54) 116 C dX7_firstWrong_54 (by decide) hf (fun hf => ?_) (fun hf => ?_)
        · refine a_iinc (pc := 116) (v := 1) (fun v2 => [(4, .int v2), (0, .ref (ad 0)), (1, .ref (ad c1)), (2, .int x2), (3, .int x3), (5, .long v1), (7, .int a45)]) C dX7_firstWrong_116 4 rfl (by decide) (by decide) (fun _ => rfl) hf (fun v2 hf => ?_)
          refine a_goto (pc := 119) 3 C dX7_firstWrong_119 (by decide) ?_
          exact a_sub [1, 2, 3, 4, 0] rfl (hk3 v2 hf)
        · refine a_aload_n (pc := 57) C dX7_firstWrong_57 0 rfl ?_
          refine a_getR (pc := 58) C dX7_firstWrong_58 fl_X7_12 tx_0 rfl ?_
          refine a_getR (pc := 61) C dX7_firstWrong_61 fl_X7_117 net_1.1 rfl ?_
          refine a_iload (pc := 64) C dX7_firstWrong_64 6 rfl ?_
          refine a_iald (pc := 66) C dX7_firstWrong_66 net_1.2.2.2.2.1 hf (fun hf => ?_)
          refine a_iload (pc := 67) C dX7_firstWrong_67 4 rfl ?_
          refine a_jn 110 (fun a110 : Unit => [(0, .ref (ad 0)), (1, .ref (ad c1)), (2, .int x2), (3, .int x3), (4, .int a3), (5, .long v1), (7, .int a45)]) (fun a110 : Unit => []) (fun a110 : Unit => M) hf (fun a110 hf => ?_) (fun k110 hk110 hf => ?_)
          · refine a_iinc (pc := 110) (v := 1) (fun v3 => [(7, .int v3), (0, .ref (ad 0)), (1, .ref (ad c1)), (2, .int x2), (3, .int x3), (4, .int a3), (5, .long v1)]) C dX7_firstWrong_110 6 rfl (by decide) (by decide) (fun _ => rfl) hf (fun v3 hf => ?_)
            refine a_goto (pc := 113) 45 C dX7_firstWrong_113 (by decide) ?_
            exact a_sub [1, 2, 3, 4, 5, 6, 0] rfl (hk45 v3 hf)
          · refine a_icmp_ne (pc := 69) 110 C dX7_firstWrong_69 (by decide) hf (fun hf => ?_) (fun hf => ?_)
            · exact a_sub [0, 1, 2, 3, 4, 5, 6] rfl (hk110 () hf)
            · refine a_aload_n (pc := 72) C dX7_firstWrong_72 1 rfl ?_
              refine a_getR (pc := 73) C dX7_firstWrong_73 fl_X7_246 hc1.1 rfl ?_
              refine a_aload_n (pc := 76) C dX7_firstWrong_76 0 rfl ?_
              refine a_getR (pc := 77) C dX7_firstWrong_77 fl_X7_12 tx_0 rfl ?_
              refine a_getR (pc := 80) C dX7_firstWrong_80 fl_X7_114 net_1.1 rfl ?_
              refine a_iload (pc := 83) C dX7_firstWrong_83 6 rfl ?_
              refine a_iald (pc := 85) C dX7_firstWrong_85 net_1.2.2.2.1 hf (fun hf => ?_)
              refine a_lald (pc := 86) C dX7_firstWrong_86 hc1.2 hf (fun hf => ?_)
              refine a_lload (pc := 87) C dX7_firstWrong_87 5 rfl ?_
              refine a_iload_n (pc := 89) C dX7_firstWrong_89 2 rfl ?_
              refine a_iload_n (pc := 90) C dX7_firstWrong_90 3 rfl ?_
              refine a_aload_n (pc := 91) C dX7_firstWrong_91 0 rfl ?_
              refine a_getR (pc := 92) C dX7_firstWrong_92 fl_X7_12 tx_0 rfl ?_
              refine a_iload (pc := 95) C dX7_firstWrong_95 6 rfl ?_
              refine a_callV_Ir (pc := 97) (d' := 2) C dX7_firstWrong_97 ml_X7_110 mc_X1_gapOf mv_X1_gapOf net_1.1 rfl [.int a45] rfl (Nat.le_of_ble_eq_true rfl) (Nat.le_of_ble_eq_true rfl) rfl (Nat.le_of_ble_eq_true rfl) (fun r h => c_X1_gapOf N 1 a45 net_1 _  r h) hf (fun v4 hf => ?_)
              refine a_imul (pc := 100) C dX7_firstWrong_100 ?_
              refine a_callS_Ir (pc := 101) (d' := 2) C dX7_firstWrong_101 ml_X7_351 mc_X7_areApart ms_X7_areApart [.long (M.2 (c1 + 1) (M.1 4 a45.toNatClampNeg).toNatClampNeg), .long v1, .int x2, .int (x3 * v4)] rfl (Nat.le_of_ble_eq_true rfl) (Nat.le_of_ble_eq_true rfl) rfl (Nat.le_of_ble_eq_true rfl) (fun r h => c_X7_areApart N (M.2 (c1 + 1) (M.1 4 a45.toNatClampNeg).toNatClampNeg) v1 x2 (x3 * v4)  _  r h) hf (fun v6 hf => ?_)
              refine a_if_ne (pc := 104) 110 C dX7_firstWrong_104 (by decide) hf (fun hf => ?_) (fun hf => ?_)
              · exact a_sub [0, 1, 2, 3, 4, 5, 6] rfl (hk110 () hf)
              · refine a_iload (pc := 107) C dX7_firstWrong_107 4 rfl ?_
                exact a_iret (pc := 109) C dX7_firstWrong_109 (Option.some.inj hf) rfl
      · refine a_iload (pc := 39) C dX7_firstWrong_39 5 rfl ?_
        exact a_iret (pc := 41) C dX7_firstWrong_41 (Option.some.inj hf) rfl
theorem dX7_tightLines_0 : decode cX7_tightLines 0 = .ok (.iconst 0, 1) := by decide +kernel
theorem dX7_tightLines_1 : decode cX7_tightLines 1 = .ok (.istore 5, 2) := by decide +kernel
theorem dX7_tightLines_3 : decode cX7_tightLines 3 = .ok (.iconst 0, 1) := by decide +kernel
theorem dX7_tightLines_4 : decode cX7_tightLines 4 = .ok (.istore 6, 2) := by decide +kernel
theorem dX7_tightLines_6 : decode cX7_tightLines 6 = .ok (.iload 6, 2) := by decide +kernel
theorem dX7_tightLines_8 : decode cX7_tightLines 8 = .ok (.aload_n 0, 1) := by decide +kernel
theorem dX7_tightLines_9 : decode cX7_tightLines 9 = .ok (.getfield 12, 3) := by decide +kernel
theorem dX7_tightLines_12 : decode cX7_tightLines 12 = .ok (.getfield 90, 3) := by decide +kernel
theorem dX7_tightLines_15 : decode cX7_tightLines 15 = .ok (.if_icmp .ge 116, 3) := by decide +kernel
theorem dX7_tightLines_18 : decode cX7_tightLines 18 = .ok (.iload_n 2, 1) := by decide +kernel
theorem dX7_tightLines_19 : decode cX7_tightLines 19 = .ok (.ifCond .le 112, 3) := by decide +kernel
theorem dX7_tightLines_22 : decode cX7_tightLines 22 = .ok (.aload_n 1, 1) := by decide +kernel
theorem dX7_tightLines_23 : decode cX7_tightLines 23 = .ok (.getfield 246, 3) := by decide +kernel
theorem dX7_tightLines_26 : decode cX7_tightLines 26 = .ok (.iload 4, 2) := by decide +kernel
theorem dX7_tightLines_28 : decode cX7_tightLines 28 = .ok (.ifCond .eq 16, 3) := by decide +kernel
theorem dX7_tightLines_31 : decode cX7_tightLines 31 = .ok (.aload_n 0, 1) := by decide +kernel
theorem dX7_tightLines_32 : decode cX7_tightLines 32 = .ok (.getfield 12, 3) := by decide +kernel
theorem dX7_tightLines_35 : decode cX7_tightLines 35 = .ok (.getfield 114, 3) := by decide +kernel
theorem dX7_tightLines_38 : decode cX7_tightLines 38 = .ok (.iload 6, 2) := by decide +kernel
theorem dX7_tightLines_40 : decode cX7_tightLines 40 = .ok (.iaload, 1) := by decide +kernel
theorem dX7_tightLines_41 : decode cX7_tightLines 41 = .ok (.goto 13, 3) := by decide +kernel
theorem dX7_tightLines_44 : decode cX7_tightLines 44 = .ok (.aload_n 0, 1) := by decide +kernel
theorem dX7_tightLines_45 : decode cX7_tightLines 45 = .ok (.getfield 12, 3) := by decide +kernel
theorem dX7_tightLines_48 : decode cX7_tightLines 48 = .ok (.getfield 117, 3) := by decide +kernel
theorem dX7_tightLines_51 : decode cX7_tightLines 51 = .ok (.iload 6, 2) := by decide +kernel
theorem dX7_tightLines_53 : decode cX7_tightLines 53 = .ok (.iaload, 1) := by decide +kernel
theorem dX7_tightLines_54 : decode cX7_tightLines 54 = .ok (.laload, 1) := by decide +kernel
theorem dX7_tightLines_55 : decode cX7_tightLines 55 = .ok (.lstore 7, 2) := by decide +kernel
theorem dX7_tightLines_57 : decode cX7_tightLines 57 = .ok (.aload_n 1, 1) := by decide +kernel
theorem dX7_tightLines_58 : decode cX7_tightLines 58 = .ok (.getfield 246, 3) := by decide +kernel
theorem dX7_tightLines_61 : decode cX7_tightLines 61 = .ok (.iload 4, 2) := by decide +kernel
theorem dX7_tightLines_63 : decode cX7_tightLines 63 = .ok (.ifCond .eq 16, 3) := by decide +kernel
theorem dX7_tightLines_66 : decode cX7_tightLines 66 = .ok (.aload_n 0, 1) := by decide +kernel
theorem dX7_tightLines_67 : decode cX7_tightLines 67 = .ok (.getfield 12, 3) := by decide +kernel
theorem dX7_tightLines_70 : decode cX7_tightLines 70 = .ok (.getfield 117, 3) := by decide +kernel
theorem dX7_tightLines_73 : decode cX7_tightLines 73 = .ok (.iload 6, 2) := by decide +kernel
theorem dX7_tightLines_75 : decode cX7_tightLines 75 = .ok (.iaload, 1) := by decide +kernel
theorem dX7_tightLines_76 : decode cX7_tightLines 76 = .ok (.goto 13, 3) := by decide +kernel
theorem dX7_tightLines_79 : decode cX7_tightLines 79 = .ok (.aload_n 0, 1) := by decide +kernel
theorem dX7_tightLines_80 : decode cX7_tightLines 80 = .ok (.getfield 12, 3) := by decide +kernel
theorem dX7_tightLines_83 : decode cX7_tightLines 83 = .ok (.getfield 114, 3) := by decide +kernel
theorem dX7_tightLines_86 : decode cX7_tightLines 86 = .ok (.iload 6, 2) := by decide +kernel
theorem dX7_tightLines_88 : decode cX7_tightLines 88 = .ok (.iaload, 1) := by decide +kernel
theorem dX7_tightLines_89 : decode cX7_tightLines 89 = .ok (.laload, 1) := by decide +kernel
theorem dX7_tightLines_90 : decode cX7_tightLines 90 = .ok (.lstore 9, 2) := by decide +kernel
theorem dX7_tightLines_92 : decode cX7_tightLines 92 = .ok (.lload 7, 2) := by decide +kernel
theorem dX7_tightLines_94 : decode cX7_tightLines 94 = .ok (.iload_n 3, 1) := by decide +kernel
theorem dX7_tightLines_95 : decode cX7_tightLines 95 = .ok (.aload_n 0, 1) := by decide +kernel
theorem dX7_tightLines_96 : decode cX7_tightLines 96 = .ok (.getfield 12, 3) := by decide +kernel
theorem dX7_tightLines_99 : decode cX7_tightLines 99 = .ok (.iload 6, 2) := by decide +kernel
theorem dX7_tightLines_101 : decode cX7_tightLines 101 = .ok (.invokevirtual 110, 3) := by decide +kernel
theorem dX7_tightLines_104 : decode cX7_tightLines 104 = .ok (.imul, 1) := by decide +kernel
theorem dX7_tightLines_105 : decode cX7_tightLines 105 = .ok (.i2l, 1) := by decide +kernel
theorem dX7_tightLines_106 : decode cX7_tightLines 106 = .ok (.ladd, 1) := by decide +kernel
theorem dX7_tightLines_107 : decode cX7_tightLines 107 = .ok (.iload_n 2, 1) := by decide +kernel
theorem dX7_tightLines_108 : decode cX7_tightLines 108 = .ok (.i2l, 1) := by decide +kernel
theorem dX7_tightLines_109 : decode cX7_tightLines 109 = .ok (.lrem, 1) := by decide +kernel
theorem dX7_tightLines_110 : decode cX7_tightLines 110 = .ok (.lload 9, 2) := by decide +kernel
theorem dX7_tightLines_112 : decode cX7_tightLines 112 = .ok (.lcmp, 1) := by decide +kernel
theorem dX7_tightLines_113 : decode cX7_tightLines 113 = .ok (.ifCond .ne 12, 3) := by decide +kernel
theorem dX7_tightLines_116 : decode cX7_tightLines 116 = .ok (.iload 5, 2) := by decide +kernel
theorem dX7_tightLines_118 : decode cX7_tightLines 118 = .ok (.iconst 1, 1) := by decide +kernel
theorem dX7_tightLines_119 : decode cX7_tightLines 119 = .ok (.iload 6, 2) := by decide +kernel
theorem dX7_tightLines_121 : decode cX7_tightLines 121 = .ok (.ishl, 1) := by decide +kernel
theorem dX7_tightLines_122 : decode cX7_tightLines 122 = .ok (.ior, 1) := by decide +kernel
theorem dX7_tightLines_123 : decode cX7_tightLines 123 = .ok (.istore 5, 2) := by decide +kernel
theorem dX7_tightLines_125 : decode cX7_tightLines 125 = .ok (.iinc 6 1, 3) := by decide +kernel
theorem dX7_tightLines_128 : decode cX7_tightLines 128 = .ok (.goto (-122), 3) := by decide +kernel
theorem dX7_tightLines_131 : decode cX7_tightLines 131 = .ok (.iload 5, 2) := by decide +kernel
theorem dX7_tightLines_133 : decode cX7_tightLines 133 = .ok (.ireturn, 1) := by decide +kernel
def f_X7_tightLines (N : Nat) (c1 : Nat) (x2 : Int32) (x3 : Int32) (x4 : Int32) (M : Mem) : Option (Int32) := lp (fun (k6 : (Int32 × Int32) → Option (Int32)) (a6 : Int32 × Int32) => if (M.1 1 1) ≤ a6.2 then (some a6.1) else (if x2 ≤ 0 then (some a6.1) else (jn (fun (a54 : Int32) => ck (inb a54 40) (nm (M.2 (c1 + 1) a54.toNatClampNeg) (fun v1 => jn (fun (a89 : Int32) => ck (inb a89 40) (nm (M.2 (c1 + 1) a89.toNatClampNeg) (fun v2 => bd (f_X1_gapOf N 1 a6.2 M) (fun v3 => ck (¬ x2.toInt64 = 0) (jn (fun (a125 : Int32) => nm (a6.2 + (1 : Int32)) (fun v5 => k6 (a125, v5))) (fun (k125 : Int32 → Option (Int32)) => if (lg_cmp ((v1 + ((x3 * v3).toInt64)) - (v1 + ((x3 * v3).toInt64)) / x2.toInt64 * x2.toInt64) v2) = 0 then (nm (a6.1 ||| ((1 : Int32) <<< (a6.2 &&& 31))) (fun v6 => k125 v6)) else (k125 a6.1))))))) (fun (k89 : Int32 → Option (Int32)) => if x4 = 0 then (ck (inb a6.2 10) (k89 (M.1 4 a6.2.toNatClampNeg))) else (ck (inb a6.2 10) (k89 (M.1 5 a6.2.toNatClampNeg))))))) (fun (k54 : Int32 → Option (Int32)) => if x4 = 0 then (ck (inb a6.2 10) (k54 (M.1 5 a6.2.toNatClampNeg))) else (ck (inb a6.2 10) (k54 (M.1 4 a6.2.toNatClampNeg))))))) N ((0 : Int32), (0 : Int32))
set_option maxRecDepth 100000 in
set_option maxHeartbeats 4000000 in
theorem c_X7_tightLines {l : Launch} {D : va_G} {ac : Nat → ClassId} {A : Nat → Prop} {ad : Nat → Nat} {rest : va_W} (N : Nat) (c1 : Nat) (x2 : Int32) (x3 : Int32) (x4 : Int32) (hc1 : SheetAt tabX c1) (M : Mem) (r0 : Int32) (hf : f_X7_tightLines N c1 x2 x3 x4 M = some r0) : CtI l D ac A tabX ad rest yX7_tightLines cX7_tightLines 11 .int 3 [.ref (ad 0), .ref (ad c1), .int x2, .int x3, .int x4] M r0 M := by
  refine ct_ofI (own := RX7) (by decide +kernel) rfl (Nat.le_of_ble_eq_true rfl) ?_
  intro p e s m args below meth c C
  unfold f_X7_tightLines at hf
  refine a_L (L' := [(0, .ref (ad 0)), (1, .ref (ad c1)), (2, .int x2), (3, .int x3), (4, .int x4)]) rfl ?_
  refine a_iconst (pc := 0) (v := 0) C dX7_tightLines_0 (by decide) ?_
  refine a_istore (pc := 1) [(5, .int (0 : Int32)), (0, .ref (ad 0)), (1, .ref (ad c1)), (2, .int x2), (3, .int x3), (4, .int x4)] C dX7_tightLines_1 (by decide) rfl ?_
  refine a_iconst (pc := 3) (v := 0) C dX7_tightLines_3 (by decide) ?_
  refine a_istore (pc := 4) [(6, .int (0 : Int32)), (5, .int (0 : Int32)), (0, .ref (ad 0)), (1, .ref (ad c1)), (2, .int x2), (3, .int x3), (4, .int x4)] C dX7_tightLines_4 (by decide) rfl ?_
  refine a_sub [2, 3, 4, 5, 6, 1, 0] rfl ?_
  refine a_lp 6 (fun a6 : Int32 × Int32 => [(0, .ref (ad 0)), (1, .ref (ad c1)), (2, .int x2), (3, .int x3), (4, .int x4), (5, .int a6.1), (6, .int a6.2)]) (fun a6 : Int32 × Int32 => []) (fun a6 : Int32 × Int32 => M) (fun k6 a6 hk6 hf => ?_) N ((0 : Int32), (0 : Int32)) hf
  refine a_iload (pc := 6) C dX7_tightLines_6 6 rfl ?_
  refine a_aload_n (pc := 8) C dX7_tightLines_8 0 rfl ?_
  refine a_getR (pc := 9) C dX7_tightLines_9 fl_X7_12 tx_0 rfl ?_
  refine a_getI (pc := 12) C dX7_tightLines_12 fl_X7_90 net_1.1 rfl ?_
  refine a_icmp_ge (pc := 15) 131 C dX7_tightLines_15 (by decide) hf (fun hf => ?_) (fun hf => ?_)
  · refine a_iload (pc := 131) C dX7_tightLines_131 5 rfl ?_
    exact a_iret (pc := 133) C dX7_tightLines_133 (Option.some.inj hf) rfl
  · refine a_iload_n (pc := 18) C dX7_tightLines_18 2 rfl ?_
    refine a_if_le (pc := 19) 131 C dX7_tightLines_19 (by decide) hf (fun hf => ?_) (fun hf => ?_)
    · refine a_iload (pc := 131) C dX7_tightLines_131 5 rfl ?_
      exact a_iret (pc := 133) C dX7_tightLines_133 (Option.some.inj hf) rfl
    · refine a_aload_n (pc := 22) C dX7_tightLines_22 1 rfl ?_
      refine a_getR (pc := 23) C dX7_tightLines_23 fl_X7_246 hc1.1 rfl ?_
      refine a_iload (pc := 26) C dX7_tightLines_26 4 rfl ?_
      refine a_jn 54 (fun a54 : Int32 => [(0, .ref (ad 0)), (1, .ref (ad c1)), (2, .int x2), (3, .int x3), (4, .int x4), (5, .int a6.1), (6, .int a6.2)]) (fun a54 : Int32 => [.int a54, .ref (ad (c1 + 1))]) (fun a54 : Int32 => M) hf (fun a54 hf => ?_) (fun k54 hk54 hf => ?_)
      · refine a_lald (pc := 54) C dX7_tightLines_54 hc1.2 hf (fun hf => ?_)
        refine a_nml hf (fun v1 hf => ?_)
        refine a_lstore (pc := 55) [(7, .long v1), (0, .ref (ad 0)), (1, .ref (ad c1)), (2, .int x2), (3, .int x3), (4, .int x4), (5, .int a6.1), (6, .int a6.2)] C dX7_tightLines_55 (by decide) rfl ?_
        refine a_aload_n (pc := 57) C dX7_tightLines_57 2 rfl ?_
        refine a_getR (pc := 58) C dX7_tightLines_58 fl_X7_246 hc1.1 rfl ?_
        refine a_iload (pc := 61) C dX7_tightLines_61 5 rfl ?_
        refine a_jn 89 (fun a89 : Int32 => [(0, .ref (ad 0)), (1, .ref (ad c1)), (2, .int x2), (3, .int x3), (4, .int x4), (5, .int a6.1), (6, .int a6.2), (7, .long v1)]) (fun a89 : Int32 => [.int a89, .ref (ad (c1 + 1))]) (fun a89 : Int32 => M) hf (fun a89 hf => ?_) (fun k89 hk89 hf => ?_)
        · refine a_lald (pc := 89) C dX7_tightLines_89 hc1.2 hf (fun hf => ?_)
          refine a_nml hf (fun v2 hf => ?_)
          refine a_lstore (pc := 90) [(9, .long v2), (0, .ref (ad 0)), (1, .ref (ad c1)), (2, .int x2), (3, .int x3), (4, .int x4), (5, .int a6.1), (6, .int a6.2), (7, .long v1)] C dX7_tightLines_90 (by decide) rfl ?_
          refine a_lload (pc := 92) C dX7_tightLines_92 8 rfl ?_
          refine a_iload_n (pc := 94) C dX7_tightLines_94 4 rfl ?_
          refine a_aload_n (pc := 95) C dX7_tightLines_95 1 rfl ?_
          refine a_getR (pc := 96) C dX7_tightLines_96 fl_X7_12 tx_0 rfl ?_
          refine a_iload (pc := 99) C dX7_tightLines_99 7 rfl ?_
          refine a_callV_Ir (pc := 101) (d' := 2) C dX7_tightLines_101 ml_X7_110 mc_X1_gapOf mv_X1_gapOf net_1.1 rfl [.int a6.2] rfl (Nat.le_of_ble_eq_true rfl) (Nat.le_of_ble_eq_true rfl) rfl (Nat.le_of_ble_eq_true rfl) (fun r h => c_X1_gapOf N 1 a6.2 net_1 _  r h) hf (fun v3 hf => ?_)
          refine a_imul (pc := 104) C dX7_tightLines_104 ?_
          refine a_i2l (pc := 105) C dX7_tightLines_105 ?_
          refine a_ladd (pc := 106) C dX7_tightLines_106 ?_
          refine a_iload_n (pc := 107) C dX7_tightLines_107 3 rfl ?_
          refine a_i2l (pc := 108) C dX7_tightLines_108 ?_
          refine a_lrem (pc := 109) C dX7_tightLines_109 hf (fun hf => ?_)
          refine a_lload (pc := 110) C dX7_tightLines_110 0 rfl ?_
          refine a_lcmp (pc := 112) C dX7_tightLines_112 ?_
          refine a_jn 125 (fun a125 : Int32 => [(0, .ref (ad 0)), (1, .ref (ad c1)), (2, .int x2), (3, .int x3), (4, .int x4), (5, .int a125), (6, .int a6.2)]) (fun a125 : Int32 => []) (fun a125 : Int32 => M) hf (fun a125 hf => ?_) (fun k125 hk125 hf => ?_)
          · refine a_iinc (pc := 125) (v := 1) (fun v5 => [(6, .int v5), (0, .ref (ad 0)), (1, .ref (ad c1)), (2, .int x2), (3, .int x3), (4, .int x4), (5, .int a125)]) C dX7_tightLines_125 6 rfl (by decide) (by decide) (fun _ => rfl) hf (fun v5 hf => ?_)
            refine a_goto (pc := 128) 6 C dX7_tightLines_128 (by decide) ?_
            exact a_sub [1, 2, 3, 4, 5, 6, 0] rfl (hk6 (a125, v5) hf)
          · refine a_if_ne (pc := 113) 125 C dX7_tightLines_113 (by decide) hf (fun hf => ?_) (fun hf => ?_)
            · exact a_sub [1, 2, 3, 4, 5, 6, 7] rfl (hk125 a6.1 hf)
            · refine a_iload (pc := 116) C dX7_tightLines_116 6 rfl ?_
              refine a_iconst (pc := 118) (v := 1) C dX7_tightLines_118 (by decide) ?_
              refine a_iload (pc := 119) C dX7_tightLines_119 7 rfl ?_
              refine a_ishl (pc := 121) C dX7_tightLines_121 ?_
              refine a_ior (pc := 122) C dX7_tightLines_122 ?_
              refine a_nmi hf (fun v6 hf => ?_)
              refine a_istore (pc := 123) [(5, .int v6), (9, .long v2), (0, .ref (ad 0)), (1, .ref (ad c1)), (2, .int x2), (3, .int x3), (4, .int x4), (6, .int a6.2), (7, .long v1)] C dX7_tightLines_123 (by decide) rfl ?_
              exact a_sub [2, 3, 4, 5, 6, 0, 7] rfl (hk125 v6 hf)
        · refine a_if_eq (pc := 63) 79 C dX7_tightLines_63 (by decide) hf (fun hf => ?_) (fun hf => ?_)
          · refine a_aload_n (pc := 79) C dX7_tightLines_79 1 rfl ?_
            refine a_getR (pc := 80) C dX7_tightLines_80 fl_X7_12 tx_0 rfl ?_
            refine a_getR (pc := 83) C dX7_tightLines_83 fl_X7_114 net_1.1 rfl ?_
            refine a_iload (pc := 86) C dX7_tightLines_86 7 rfl ?_
            refine a_iald (pc := 88) C dX7_tightLines_88 net_1.2.2.2.1 hf (fun hf => ?_)
            exact a_sub [1, 2, 3, 4, 5, 6, 7, 0] rfl (hk89 (M.1 4 a6.2.toNatClampNeg) hf)
          · refine a_aload_n (pc := 66) C dX7_tightLines_66 1 rfl ?_
            refine a_getR (pc := 67) C dX7_tightLines_67 fl_X7_12 tx_0 rfl ?_
            refine a_getR (pc := 70) C dX7_tightLines_70 fl_X7_117 net_1.1 rfl ?_
            refine a_iload (pc := 73) C dX7_tightLines_73 7 rfl ?_
            refine a_iald (pc := 75) C dX7_tightLines_75 net_1.2.2.2.2.1 hf (fun hf => ?_)
            refine a_goto (pc := 76) 89 C dX7_tightLines_76 (by decide) ?_
            exact a_sub [1, 2, 3, 4, 5, 6, 7, 0] rfl (hk89 (M.1 5 a6.2.toNatClampNeg) hf)
      · refine a_if_eq (pc := 28) 44 C dX7_tightLines_28 (by decide) hf (fun hf => ?_) (fun hf => ?_)
        · refine a_aload_n (pc := 44) C dX7_tightLines_44 0 rfl ?_
          refine a_getR (pc := 45) C dX7_tightLines_45 fl_X7_12 tx_0 rfl ?_
          refine a_getR (pc := 48) C dX7_tightLines_48 fl_X7_117 net_1.1 rfl ?_
          refine a_iload (pc := 51) C dX7_tightLines_51 6 rfl ?_
          refine a_iald (pc := 53) C dX7_tightLines_53 net_1.2.2.2.2.1 hf (fun hf => ?_)
          exact a_sub [0, 1, 2, 3, 4, 5, 6] rfl (hk54 (M.1 5 a6.2.toNatClampNeg) hf)
        · refine a_aload_n (pc := 31) C dX7_tightLines_31 0 rfl ?_
          refine a_getR (pc := 32) C dX7_tightLines_32 fl_X7_12 tx_0 rfl ?_
          refine a_getR (pc := 35) C dX7_tightLines_35 fl_X7_114 net_1.1 rfl ?_
          refine a_iload (pc := 38) C dX7_tightLines_38 6 rfl ?_
          refine a_iald (pc := 40) C dX7_tightLines_40 net_1.2.2.2.1 hf (fun hf => ?_)
          refine a_goto (pc := 41) 54 C dX7_tightLines_41 (by decide) ?_
          exact a_sub [0, 1, 2, 3, 4, 5, 6] rfl (hk54 (M.1 4 a6.2.toNatClampNeg) hf)
