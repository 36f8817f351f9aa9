theorem dX8_gap_0 : decode cX8_gap 0 = .ok (.aload_n 0, 1) := by decide +kernel
theorem dX8_gap_1 : decode cX8_gap 1 = .ok (.getfield 13, 3) := by decide +kernel
theorem dX8_gap_4 : decode cX8_gap 4 = .ok (.iload_n 1, 1) := by decide +kernel
theorem dX8_gap_5 : decode cX8_gap 5 = .ok (.iaload, 1) := by decide +kernel
theorem dX8_gap_6 : decode cX8_gap 6 = .ok (.aload_n 0, 1) := by decide +kernel
theorem dX8_gap_7 : decode cX8_gap 7 = .ok (.getfield 17, 3) := by decide +kernel
theorem dX8_gap_10 : decode cX8_gap 10 = .ok (.iload_n 1, 1) := by decide +kernel
theorem dX8_gap_11 : decode cX8_gap 11 = .ok (.iaload, 1) := by decide +kernel
theorem dX8_gap_12 : decode cX8_gap 12 = .ok (.aload_n 0, 1) := by decide +kernel
theorem dX8_gap_13 : decode cX8_gap 13 = .ok (.getfield 20, 3) := by decide +kernel
theorem dX8_gap_16 : decode cX8_gap 16 = .ok (.iload_n 1, 1) := by decide +kernel
theorem dX8_gap_17 : decode cX8_gap 17 = .ok (.iaload, 1) := by decide +kernel
theorem dX8_gap_18 : decode cX8_gap 18 = .ok (.aload_n 0, 1) := by decide +kernel
theorem dX8_gap_19 : decode cX8_gap 19 = .ok (.getfield 23, 3) := by decide +kernel
theorem dX8_gap_22 : decode cX8_gap 22 = .ok (.iload_n 1, 1) := by decide +kernel
theorem dX8_gap_23 : decode cX8_gap 23 = .ok (.iaload, 1) := by decide +kernel
theorem dX8_gap_24 : decode cX8_gap 24 = .ok (.invokestatic 105, 3) := by decide +kernel
theorem dX8_gap_27 : decode cX8_gap 27 = .ok (.iload_n 1, 1) := by decide +kernel
theorem dX8_gap_28 : decode cX8_gap 28 = .ok (.aload_n 0, 1) := by decide +kernel
theorem dX8_gap_29 : decode cX8_gap 29 = .ok (.getfield 32, 3) := by decide +kernel
theorem dX8_gap_32 : decode cX8_gap 32 = .ok (.if_icmp .ne 10, 3) := by decide +kernel
theorem dX8_gap_35 : decode cX8_gap 35 = .ok (.aload_n 0, 1) := by decide +kernel
theorem dX8_gap_36 : decode cX8_gap 36 = .ok (.getfield 109, 3) := by decide +kernel
theorem dX8_gap_39 : decode cX8_gap 39 = .ok (.goto 4, 3) := by decide +kernel
theorem dX8_gap_42 : decode cX8_gap 42 = .ok (.iconst 0, 1) := by decide +kernel
theorem dX8_gap_43 : decode cX8_gap 43 = .ok (.iadd, 1) := by decide +kernel
theorem dX8_gap_44 : decode cX8_gap 44 = .ok (.ireturn, 1) := by decide +kernel
def f_X8_gap (N : Nat) (x1 : Int32) (M : Mem) : Option (Int32) := ck (inb x1 10) (ck (inb x1 10) (ck (inb x1 10) (ck (inb x1 10) (bd (f_X8_gapBy N (M.1 1 x1.toNatClampNeg) (M.1 2 x1.toNatClampNeg) (M.1 3 x1.toNatClampNeg) (M.1 4 x1.toNatClampNeg) M) (fun v1 => if x1 = (M.1 0 8) then (some (v1 + (M.1 0 9))) else (some (v1 + (0 : Int32))))))))
set_option maxRecDepth 100000 in
set_option maxHeartbeats 4000000 in
theorem c_X8_gap {l : Launch} {D : va_G} {ac : Nat → ClassId} {A : Nat → Prop} {ad : Nat → Nat} {rest : va_W} (N : Nat) (x1 : Int32)  (M : Mem) (r0 : Int32) (hf : f_X8_gap N x1 M = some r0) : CtI l D ac A tabM ad rest yX8_gap cX8_gap 2 .int 2 [.ref (ad 0), .int x1] M r0 M := by
  refine ct_ofI (own := RX8) (by decide +kernel) rfl (Nat.le_of_ble_eq_true rfl) ?_
  intro p e s m args below meth c C
  unfold f_X8_gap at hf
  refine a_L (L' := [(0, .ref (ad 0)), (1, .int x1)]) rfl ?_
  refine a_aload_n (pc := 0) C dX8_gap_0 0 rfl ?_
  refine a_getR (pc := 1) C dX8_gap_1 fl_X8_13 tm_0 rfl ?_
  refine a_iload_n (pc := 4) C dX8_gap_4 1 rfl ?_
  refine a_iald (pc := 5) C dX8_gap_5 tm_1 hf (fun hf => ?_)
  refine a_aload_n (pc := 6) C dX8_gap_6 0 rfl ?_
  refine a_getR (pc := 7) C dX8_gap_7 fl_X8_17 tm_0 rfl ?_
  refine a_iload_n (pc := 10) C dX8_gap_10 1 rfl ?_
  refine a_iald (pc := 11) C dX8_gap_11 tm_2 hf (fun hf => ?_)
  refine a_aload_n (pc := 12) C dX8_gap_12 0 rfl ?_
  refine a_getR (pc := 13) C dX8_gap_13 fl_X8_20 tm_0 rfl ?_
  refine a_iload_n (pc := 16) C dX8_gap_16 1 rfl ?_
  refine a_iald (pc := 17) C dX8_gap_17 tm_3 hf (fun hf => ?_)
  refine a_aload_n (pc := 18) C dX8_gap_18 0 rfl ?_
  refine a_getR (pc := 19) C dX8_gap_19 fl_X8_23 tm_0 rfl ?_
  refine a_iload_n (pc := 22) C dX8_gap_22 1 rfl ?_
  refine a_iald (pc := 23) C dX8_gap_23 tm_4 hf (fun hf => ?_)
  refine a_callS_Ir (pc := 24) (d' := 1) C dX8_gap_24 ml_X8_105 mc_X8_gapBy ms_X8_gapBy [.int (M.1 1 x1.toNatClampNeg), .int (M.1 2 x1.toNatClampNeg), .int (M.1 3 x1.toNatClampNeg), .int (M.1 4 x1.toNatClampNeg)] rfl (Nat.le_of_ble_eq_true rfl) (Nat.le_of_ble_eq_true rfl) rfl (Nat.le_of_ble_eq_true rfl) (fun r h => c_X8_gapBy N (M.1 1 x1.toNatClampNeg) (M.1 2 x1.toNatClampNeg) (M.1 3 x1.toNatClampNeg) (M.1 4 x1.toNatClampNeg)  _  r h) hf (fun v1 hf => ?_)
  refine a_iload_n (pc := 27) C dX8_gap_27 1 rfl ?_
  refine a_aload_n (pc := 28) C dX8_gap_28 0 rfl ?_
  refine a_getI (pc := 29) C dX8_gap_29 fl_X8_32 tm_0 rfl ?_
  refine a_icmp_ne (pc := 32) 42 C dX8_gap_32 (by decide) hf (fun hf => ?_) (fun hf => ?_)
  · refine a_iconst (pc := 42) (v := 0) C dX8_gap_42 (by decide) ?_
    refine a_iadd (pc := 43) C dX8_gap_43 ?_
    exact a_iret (pc := 44) C dX8_gap_44 (Option.some.inj hf) rfl
  · refine a_aload_n (pc := 35) C dX8_gap_35 0 rfl ?_
    refine a_getI (pc := 36) C dX8_gap_36 fl_X8_109 tm_0 rfl ?_
    refine a_goto (pc := 39) 43 C dX8_gap_39 (by decide) ?_
    refine a_iadd (pc := 43) C dX8_gap_43 ?_
    exact a_iret (pc := 44) C dX8_gap_44 (Option.some.inj hf) rfl
theorem dX8_points_0 : decode cX8_points 0 = .ok (.iload_n 1, 1) := by decide +kernel
theorem dX8_points_1 : decode cX8_points 1 = .ok (.i2l, 1) := by decide +kernel
theorem dX8_points_2 : decode cX8_points 2 = .ok (.lconst 1, 1) := by decide +kernel
theorem dX8_points_3 : decode cX8_points 3 = .ok (.ldc2_w 112, 3) := by decide +kernel
theorem dX8_points_6 : decode cX8_points 6 = .ok (.invokestatic 98, 3) := by decide +kernel
theorem dX8_points_9 : decode cX8_points 9 = .ok (.ifCond .ne 6, 3) := by decide +kernel
theorem dX8_points_12 : decode cX8_points 12 = .ok (.bipush (-2), 2) := by decide +kernel
theorem dX8_points_14 : decode cX8_points 14 = .ok (.ireturn, 1) := by decide +kernel
theorem dX8_points_15 : decode cX8_points 15 = .ok (.aload_n 0, 1) := by decide +kernel
theorem dX8_points_16 : decode cX8_points 16 = .ok (.getfield 95, 3) := by decide +kernel
theorem dX8_points_19 : decode cX8_points 19 = .ok (.iload_n 1, 1) := by decide +kernel
theorem dX8_points_20 : decode cX8_points 20 = .ok (.iadd, 1) := by decide +kernel
theorem dX8_points_21 : decode cX8_points 21 = .ok (.bipush 6, 2) := by decide +kernel
theorem dX8_points_23 : decode cX8_points 23 = .ok (.if_icmp .le 6, 3) := by decide +kernel
theorem dX8_points_26 : decode cX8_points 26 = .ok (.bipush (-4), 2) := by decide +kernel
theorem dX8_points_28 : decode cX8_points 28 = .ok (.ireturn, 1) := by decide +kernel
theorem dX8_points_29 : decode cX8_points 29 = .ok (.aload_n 0, 1) := by decide +kernel
theorem dX8_points_30 : decode cX8_points 30 = .ok (.iload_n 1, 1) := by decide +kernel
theorem dX8_points_31 : decode cX8_points 31 = .ok (.invokevirtual 114, 3) := by decide +kernel
theorem dX8_points_34 : decode cX8_points 34 = .ok (.aload_n 0, 1) := by decide +kernel
theorem dX8_points_35 : decode cX8_points 35 = .ok (.getfield 95, 3) := by decide +kernel
theorem dX8_points_38 : decode cX8_points 38 = .ok (.ireturn, 1) := by decide +kernel
def f_X8_points (N : Nat) (x1 : Int32) (M : Mem) : Option (Int32 × Mem) := bd (f_X8_in N x1.toInt64 (1 : Int64) (6 : Int64) M) (fun v1 => if v1 = 0 then (some ((-2 : Int32), M)) else (if ((M.1 0 0) + x1) ≤ (6 : Int32) then (bd (f_X8_pointsCome N x1 M) (fun M4 => some ((M4.1 0 0), M4))) else (some ((-4 : Int32), M))))
set_option maxRecDepth 100000 in
set_option maxHeartbeats 4000000 in
theorem c_X8_points {l : Launch} {D : va_G} {ac : Nat → ClassId} {A : Nat → Prop} {ad : Nat → Nat} {rest : va_W} (N : Nat) (x1 : Int32)  (M : Mem) (r0 : Int32) (M0 : Mem) (hf : f_X8_points N x1 M = some (r0, M0)) : CtI l D ac A tabM ad rest yX8_points cX8_points 2 .int 2 [.ref (ad 0), .int x1] M r0 M0 := by
  refine ct_ofI (own := RX8) (by decide +kernel) rfl (Nat.le_of_ble_eq_true rfl) ?_
  intro p e s m args below meth c C
  unfold f_X8_points at hf
  refine a_L (L' := [(0, .ref (ad 0)), (1, .int x1)]) rfl ?_
  refine a_iload_n (pc := 0) C dX8_points_0 1 rfl ?_
  refine a_i2l (pc := 1) C dX8_points_1 ?_
  refine a_lconst (pc := 2) (v := 1) C dX8_points_2 (by decide) ?_
  refine a_ldc2 (pc := 3) C dX8_points_3 cj_X8_112 ?_
  refine a_callS_Ir (pc := 6) (d' := 1) C dX8_points_6 ml_X8_98 mc_X8_in ms_X8_in [.long x1.toInt64, .long (1 : Int64), .long (6 : Int64)] rfl (Nat.le_of_ble_eq_true rfl) (Nat.le_of_ble_eq_true rfl) rfl (Nat.le_of_ble_eq_true rfl) (fun r h => c_X8_in N x1.toInt64 (1 : Int64) (6 : Int64)  _  r h) hf (fun v1 hf => ?_)
  refine a_if_ne (pc := 9) 15 C dX8_points_9 (by decide) hf (fun hf => ?_) (fun hf => ?_)
  · refine a_aload_n (pc := 15) C dX8_points_15 0 rfl ?_
    refine a_getI (pc := 16) C dX8_points_16 fl_X8_95 tm_0 rfl ?_
    refine a_iload_n (pc := 19) C dX8_points_19 1 rfl ?_
    refine a_iadd (pc := 20) C dX8_points_20 ?_
    refine a_bipush (pc := 21) (v := 6) C dX8_points_21 (by decide) ?_
    refine a_icmp_le (pc := 23) 29 C dX8_points_23 (by decide) hf (fun hf => ?_) (fun hf => ?_)
    · refine a_aload_n (pc := 29) C dX8_points_29 0 rfl ?_
      refine a_iload_n (pc := 30) C dX8_points_30 1 rfl ?_
      refine a_callV_V (pc := 31) (d' := 1) C dX8_points_31 ml_X8_114 mc_X8_pointsCome mv_X8_pointsCome tm_0 rfl [.int x1] rfl (Nat.le_of_ble_eq_true rfl) (Nat.le_of_ble_eq_true rfl) rfl (Nat.le_of_ble_eq_true rfl) (fun M' h => c_X8_pointsCome N x1  _  M' h) hf (fun M4 hf => ?_)
      refine a_aload_n (pc := 34) C dX8_points_34 0 rfl ?_
      refine a_getI (pc := 35) C dX8_points_35 fl_X8_95 tm_0 rfl ?_
      exact a_iret (pc := 38) C dX8_points_38 (so_1 hf) (so_2 hf)
    · refine a_bipush (pc := 26) (v := (-4)) C dX8_points_26 (by decide) ?_
      exact a_iret (pc := 28) C dX8_points_28 (so_1 hf) (so_2 hf)
  · refine a_bipush (pc := 12) (v := (-2)) C dX8_points_12 (by decide) ?_
    exact a_iret (pc := 14) C dX8_points_14 (so_1 hf) (so_2 hf)
theorem dX8_partOf_0 : decode cX8_partOf 0 = .ok (.iconst 1, 1) := by decide +kernel
theorem dX8_partOf_1 : decode cX8_partOf 1 = .ok (.iload_n 1, 1) := by decide +kernel
theorem dX8_partOf_2 : decode cX8_partOf 2 = .ok (.ishl, 1) := by decide +kernel
theorem dX8_partOf_3 : decode cX8_partOf 3 = .ok (.istore_n 2, 1) := by decide +kernel
theorem dX8_partOf_4 : decode cX8_partOf 4 = .ok (.iconst 0, 1) := by decide +kernel
theorem dX8_partOf_5 : decode cX8_partOf 5 = .ok (.istore_n 3, 1) := by decide +kernel
theorem dX8_partOf_6 : decode cX8_partOf 6 = .ok (.iload_n 3, 1) := by decide +kernel
theorem dX8_partOf_7 : decode cX8_partOf 7 = .ok (.aload_n 0, 1) := by decide +kernel
theorem dX8_partOf_8 : decode cX8_partOf 8 = .ok (.getfield 95, 3) := by decide +kernel
theorem dX8_partOf_11 : decode cX8_partOf 11 = .ok (.if_icmp .ge 83, 3) := by decide +kernel
theorem dX8_partOf_14 : decode cX8_partOf 14 = .ok (.iconst 0, 1) := by decide +kernel
theorem dX8_partOf_15 : decode cX8_partOf 15 = .ok (.istore 4, 2) := by decide +kernel
theorem dX8_partOf_17 : decode cX8_partOf 17 = .ok (.iload 4, 2) := by decide +kernel
theorem dX8_partOf_19 : decode cX8_partOf 19 = .ok (.aload_n 0, 1) := by decide +kernel
theorem dX8_partOf_20 : decode cX8_partOf 20 = .ok (.getfield 102, 3) := by decide +kernel
theorem dX8_partOf_23 : decode cX8_partOf 23 = .ok (.if_icmp .ge 65, 3) := by decide +kernel
theorem dX8_partOf_26 : decode cX8_partOf 26 = .ok (.iload_n 2, 1) := by decide +kernel
theorem dX8_partOf_27 : decode cX8_partOf 27 = .ok (.iload_n 2, 1) := by decide +kernel
theorem dX8_partOf_28 : decode cX8_partOf 28 = .ok (.aload_n 0, 1) := by decide +kernel
theorem dX8_partOf_29 : decode cX8_partOf 29 = .ok (.getfield 20, 3) := by decide +kernel
theorem dX8_partOf_32 : decode cX8_partOf 32 = .ok (.iload 4, 2) := by decide +kernel
theorem dX8_partOf_34 : decode cX8_partOf 34 = .ok (.iaload, 1) := by decide +kernel
theorem dX8_partOf_35 : decode cX8_partOf 35 = .ok (.invokestatic 158, 3) := by decide +kernel
theorem dX8_partOf_38 : decode cX8_partOf 38 = .ok (.ifCond .eq 15, 3) := by decide +kernel
theorem dX8_partOf_41 : decode cX8_partOf 41 = .ok (.iconst 1, 1) := by decide +kernel
theorem dX8_partOf_42 : decode cX8_partOf 42 = .ok (.aload_n 0, 1) := by decide +kernel
theorem dX8_partOf_43 : decode cX8_partOf 43 = .ok (.getfield 23, 3) := by decide +kernel
theorem dX8_partOf_46 : decode cX8_partOf 46 = .ok (.iload 4, 2) := by decide +kernel
theorem dX8_partOf_48 : decode cX8_partOf 48 = .ok (.iaload, 1) := by decide +kernel
theorem dX8_partOf_49 : decode cX8_partOf 49 = .ok (.ishl, 1) := by decide +kernel
theorem dX8_partOf_50 : decode cX8_partOf 50 = .ok (.goto 30, 3) := by decide +kernel
theorem dX8_partOf_53 : decode cX8_partOf 53 = .ok (.iload_n 2, 1) := by decide +kernel
theorem dX8_partOf_54 : decode cX8_partOf 54 = .ok (.aload_n 0, 1) := by decide +kernel
theorem dX8_partOf_55 : decode cX8_partOf 55 = .ok (.getfield 23, 3) := by decide +kernel
theorem dX8_partOf_58 : decode cX8_partOf 58 = .ok (.iload 4, 2) := by decide +kernel
theorem dX8_partOf_60 : decode cX8_partOf 60 = .ok (.iaload, 1) := by decide +kernel
theorem dX8_partOf_61 : decode cX8_partOf 61 = .ok (.invokestatic 158, 3) := by decide +kernel
theorem dX8_partOf_64 : decode cX8_partOf 64 = .ok (.ifCond .eq 15, 3) := by decide +kernel
theorem dX8_partOf_67 : decode cX8_partOf 67 = .ok (.iconst 1, 1) := by decide +kernel
theorem dX8_partOf_68 : decode cX8_partOf 68 = .ok (.aload_n 0, 1) := by decide +kernel
theorem dX8_partOf_69 : decode cX8_partOf 69 = .ok (.getfield 20, 3) := by decide +kernel
theorem dX8_partOf_72 : decode cX8_partOf 72 = .ok (.iload 4, 2) := by decide +kernel
theorem dX8_partOf_74 : decode cX8_partOf 74 = .ok (.iaload, 1) := by decide +kernel
theorem dX8_partOf_75 : decode cX8_partOf 75 = .ok (.ishl, 1) := by decide +kernel
theorem dX8_partOf_76 : decode cX8_partOf 76 = .ok (.goto 4, 3) := by decide +kernel
theorem dX8_partOf_79 : decode cX8_partOf 79 = .ok (.iconst 0, 1) := by decide +kernel
theorem dX8_partOf_80 : decode cX8_partOf 80 = .ok (.ior, 1) := by decide +kernel
theorem dX8_partOf_81 : decode cX8_partOf 81 = .ok (.istore_n 2, 1) := by decide +kernel
theorem dX8_partOf_82 : decode cX8_partOf 82 = .ok (.iinc 4 1, 3) := by decide +kernel
theorem dX8_partOf_85 : decode cX8_partOf 85 = .ok (.goto (-68), 3) := by decide +kernel
theorem dX8_partOf_88 : decode cX8_partOf 88 = .ok (.iinc 3 1, 3) := by decide +kernel
theorem dX8_partOf_91 : decode cX8_partOf 91 = .ok (.goto (-85), 3) := by decide +kernel
theorem dX8_partOf_94 : decode cX8_partOf 94 = .ok (.iload_n 2, 1) := by decide +kernel
theorem dX8_partOf_95 : decode cX8_partOf 95 = .ok (.ireturn, 1) := by decide +kernel
def f_X8_partOf (N : Nat) (x1 : Int32) (M : Mem) : Option (Int32) := nm ((1 : Int32) <<< (x1 &&& 31)) (fun v1 => lp (fun (k6 : (Int32 × Int32) → Option (Int32)) (a6 : Int32 × Int32) => if (M.1 0 0) ≤ a6.2 then (some a6.1) else (lp (fun (k17 : (Int32 × Int32) → Option (Int32)) (a17 : Int32 × Int32) => if (M.1 0 1) ≤ a17.2 then (nm (a6.2 + (1 : Int32)) (fun v2 => k6 (a17.1, v2))) else (ck (inb a17.2 10) (bd (f_X8_has N a17.1 (M.1 3 a17.2.toNatClampNeg) M) (fun v3 => jn (fun (a80 : Int32) => nm (a17.1 ||| a80) (fun v5 => nm (a17.2 + (1 : Int32)) (fun v6 => k17 (v5, v6)))) (fun (k80 : Int32 → Option (Int32)) => if v3 = 0 then (ck (inb a17.2 10) (bd (f_X8_has N a17.1 (M.1 4 a17.2.toNatClampNeg) M) (fun v7 => if v7 = 0 then (k80 (0 : Int32)) else (ck (inb a17.2 10) (k80 ((1 : Int32) <<< ((M.1 3 a17.2.toNatClampNeg) &&& 31))))))) else (ck (inb a17.2 10) (k80 ((1 : Int32) <<< ((M.1 4 a17.2.toNatClampNeg) &&& 31))))))))) N (a6.1, (0 : Int32)))) N (v1, (0 : Int32)))
set_option maxRecDepth 100000 in
set_option maxHeartbeats 4000000 in
theorem c_X8_partOf {l : Launch} {D : va_G} {ac : Nat → ClassId} {A : Nat → Prop} {ad : Nat → Nat} {rest : va_W} (N : Nat) (x1 : Int32)  (M : Mem) (r0 : Int32) (hf : f_X8_partOf N x1 M = some r0) : CtI l D ac A tabM ad rest yX8_partOf cX8_partOf 5 .int 2 [.ref (ad 0), .int x1] M r0 M := by
  refine ct_ofI (own := RX8) (by decide +kernel) rfl (Nat.le_of_ble_eq_true rfl) ?_
  intro p e s m args below meth c C
  unfold f_X8_partOf at hf
  refine a_L (L' := [(0, .ref (ad 0)), (1, .int x1)]) rfl ?_
  refine a_iconst (pc := 0) (v := 1) C dX8_partOf_0 (by decide) ?_
  refine a_iload_n (pc := 1) C dX8_partOf_1 1 rfl ?_
  refine a_ishl (pc := 2) C dX8_partOf_2 ?_
  refine a_nmi hf (fun v1 hf => ?_)
  refine a_istore_n (pc := 3) [(2, .int v1), (0, .ref (ad 0)), (1, .int x1)] C dX8_partOf_3 (by decide) rfl ?_
  refine a_iconst (pc := 4) (v := 0) C dX8_partOf_4 (by decide) ?_
  refine a_istore_n (pc := 5) [(3, .int (0 : Int32)), (2, .int v1), (0, .ref (ad 0)), (1, .int x1)] C dX8_partOf_5 (by decide) rfl ?_
  refine a_sub [2, 1, 0] rfl ?_
  refine a_lp 6 (fun a6 : Int32 × Int32 => [(0, .ref (ad 0)), (2, .int a6.1), (3, .int a6.2)]) (fun a6 : Int32 × Int32 => []) (fun a6 : Int32 × Int32 => M) (fun k6 a6 hk6 hf => ?_) N (v1, (0 : Int32)) hf
  refine a_iload_n (pc := 6) C dX8_partOf_6 2 rfl ?_
  refine a_aload_n (pc := 7) C dX8_partOf_7 0 rfl ?_
  refine a_getI (pc := 8) C dX8_partOf_8 fl_X8_95 tm_0 rfl ?_
  refine a_icmp_ge (pc := 11) 94 C dX8_partOf_11 (by decide) hf (fun hf => ?_) (fun hf => ?_)
  · refine a_iload_n (pc := 94) C dX8_partOf_94 1 rfl ?_
    exact a_iret (pc := 95) C dX8_partOf_95 (Option.some.inj hf) rfl
  · refine a_iconst (pc := 14) (v := 0) C dX8_partOf_14 (by decide) ?_
    refine a_istore (pc := 15) [(4, .int (0 : Int32)), (0, .ref (ad 0)), (2, .int a6.1), (3, .int a6.2)] C dX8_partOf_15 (by decide) rfl ?_
    refine a_sub [1, 2, 3, 0] rfl ?_
    refine a_lp 17 (fun a17 : Int32 × Int32 => [(0, .ref (ad 0)), (2, .int a17.1), (3, .int a6.2), (4, .int a17.2)]) (fun a17 : Int32 × Int32 => []) (fun a17 : Int32 × Int32 => M) (fun k17 a17 hk17 hf => ?_) N (a6.1, (0 : Int32)) hf
    refine a_iload (pc := 17) C dX8_partOf_17 3 rfl ?_
    refine a_aload_n (pc := 19) C dX8_partOf_19 0 rfl ?_
    refine a_getI (pc := 20) C dX8_partOf_20 fl_X8_102 tm_0 rfl ?_
    refine a_icmp_ge (pc := 23) 88 C dX8_partOf_23 (by decide) hf (fun hf => ?_) (fun hf => ?_)
    · refine a_iinc (pc := 88) (v := 1) (fun v2 => [(3, .int v2), (0, .ref (ad 0)), (2, .int a17.1), (4, .int a17.2)]) C dX8_partOf_88 2 rfl (by decide) (by decide) (fun _ => rfl) hf (fun v2 hf => ?_)
      refine a_goto (pc := 91) 6 C dX8_partOf_91 (by decide) ?_
      exact a_sub [1, 2, 0] rfl (hk6 (a17.1, v2) hf)
    · refine a_iload_n (pc := 26) C dX8_partOf_26 1 rfl ?_
      refine a_iload_n (pc := 27) C dX8_partOf_27 1 rfl ?_
      refine a_aload_n (pc := 28) C dX8_partOf_28 0 rfl ?_
      refine a_getR (pc := 29) C dX8_partOf_29 fl_X8_20 tm_0 rfl ?_
      refine a_iload (pc := 32) C dX8_partOf_32 3 rfl ?_
      refine a_iald (pc := 34) C dX8_partOf_34 tm_3 hf (fun hf => ?_)
      refine a_callS_Ir (pc := 35) (d' := 1) C dX8_partOf_35 ml_X8_158 mc_X8_has ms_X8_has [.int a17.1, .int (M.1 3 a17.2.toNatClampNeg)] rfl (Nat.le_of_ble_eq_true rfl) (Nat.le_of_ble_eq_true rfl) rfl (Nat.le_of_ble_eq_true rfl) (fun r h => c_X8_has N a17.1 (M.1 3 a17.2.toNatClampNeg)  _  r h) hf (fun v3 hf => ?_)
      refine a_jn 80 (fun a80 : Int32 => [(0, .ref (ad 0)), (3, .int a6.2), (4, .int a17.2)]) (fun a80 : Int32 => [.int a80, .int a17.1]) (fun a80 : Int32 => M) hf (fun a80 hf => ?_) (fun k80 hk80 hf => ?_)
      · refine a_ior (pc := 80) C dX8_partOf_80 ?_
        refine a_nmi hf (fun v5 hf => ?_)
        refine a_istore_n (pc := 81) [(2, .int v5), (0, .ref (ad 0)), (3, .int a6.2), (4, .int a17.2)] C dX8_partOf_81 (by decide) rfl ?_
        refine a_iinc (pc := 82) (v := 1) (fun v6 => [(4, .int v6), (2, .int v5), (0, .ref (ad 0)), (3, .int a6.2)]) C dX8_partOf_82 3 rfl (by decide) (by decide) (fun _ => rfl) hf (fun v6 hf => ?_)
        refine a_goto (pc := 85) 17 C dX8_partOf_85 (by decide) ?_
        exact a_sub [2, 1, 3, 0] rfl (hk17 (v5, v6) hf)
      · refine a_if_eq (pc := 38) 53 C dX8_partOf_38 (by decide) hf (fun hf => ?_) (fun hf => ?_)
        · refine a_iload_n (pc := 53) C dX8_partOf_53 1 rfl ?_
          refine a_aload_n (pc := 54) C dX8_partOf_54 0 rfl ?_
          refine a_getR (pc := 55) C dX8_partOf_55 fl_X8_23 tm_0 rfl ?_
          refine a_iload (pc := 58) C dX8_partOf_58 3 rfl ?_
          refine a_iald (pc := 60) C dX8_partOf_60 tm_4 hf (fun hf => ?_)
          refine a_callS_Ir (pc := 61) (d' := 1) C dX8_partOf_61 ml_X8_158 mc_X8_has ms_X8_has [.int a17.1, .int (M.1 4 a17.2.toNatClampNeg)] rfl (Nat.le_of_ble_eq_true rfl) (Nat.le_of_ble_eq_true rfl) rfl (Nat.le_of_ble_eq_true rfl) (fun r h => c_X8_has N a17.1 (M.1 4 a17.2.toNatClampNeg)  _  r h) hf (fun v7 hf => ?_)
          refine a_if_eq (pc := 64) 79 C dX8_partOf_64 (by decide) hf (fun hf => ?_) (fun hf => ?_)
          · refine a_iconst (pc := 79) (v := 0) C dX8_partOf_79 (by decide) ?_
            exact a_sub [0, 2, 3] rfl (hk80 (0 : Int32) hf)
          · refine a_iconst (pc := 67) (v := 1) C dX8_partOf_67 (by decide) ?_
            refine a_aload_n (pc := 68) C dX8_partOf_68 0 rfl ?_
            refine a_getR (pc := 69) C dX8_partOf_69 fl_X8_20 tm_0 rfl ?_
            refine a_iload (pc := 72) C dX8_partOf_72 3 rfl ?_
            refine a_iald (pc := 74) C dX8_partOf_74 tm_3 hf (fun hf => ?_)
            refine a_ishl (pc := 75) C dX8_partOf_75 ?_
            refine a_goto (pc := 76) 80 C dX8_partOf_76 (by decide) ?_
            exact a_sub [0, 2, 3] rfl (hk80 ((1 : Int32) <<< ((M.1 3 a17.2.toNatClampNeg) &&& 31)) hf)
        · refine a_iconst (pc := 41) (v := 1) C dX8_partOf_41 (by decide) ?_
          refine a_aload_n (pc := 42) C dX8_partOf_42 0 rfl ?_
          refine a_getR (pc := 43) C dX8_partOf_43 fl_X8_23 tm_0 rfl ?_
          refine a_iload (pc := 46) C dX8_partOf_46 3 rfl ?_
          refine a_iald (pc := 48) C dX8_partOf_48 tm_4 hf (fun hf => ?_)
          refine a_ishl (pc := 49) C dX8_partOf_49 ?_
          refine a_goto (pc := 50) 80 C dX8_partOf_50 (by decide) ?_
          exact a_sub [0, 2, 3] rfl (hk80 ((1 : Int32) <<< ((M.1 4 a17.2.toNatClampNeg) &&& 31)) hf)
theorem dX8_areAsked_0 : decode cX8_areAsked 0 = .ok (.iload_n 2, 1) := by decide +kernel
theorem dX8_areAsked_1 : decode cX8_areAsked 1 = .ok (.i2l, 1) := by decide +kernel
theorem dX8_areAsked_2 : decode cX8_areAsked 2 = .ok (.lconst 0, 1) := by decide +kernel
theorem dX8_areAsked_3 : decode cX8_areAsked 3 = .ok (.lconst 1, 1) := by decide +kernel
theorem dX8_areAsked_4 : decode cX8_areAsked 4 = .ok (.invokestatic 98, 3) := by decide +kernel
theorem dX8_areAsked_7 : decode cX8_areAsked 7 = .ok (.ifCond .eq 42, 3) := by decide +kernel
theorem dX8_areAsked_10 : decode cX8_areAsked 10 = .ok (.iload_n 0, 1) := by decide +kernel
theorem dX8_areAsked_11 : decode cX8_areAsked 11 = .ok (.i2l, 1) := by decide +kernel
theorem dX8_areAsked_12 : decode cX8_areAsked 12 = .ok (.lconst 1, 1) := by decide +kernel
theorem dX8_areAsked_13 : decode cX8_areAsked 13 = .ok (.iload_n 2, 1) := by decide +kernel
theorem dX8_areAsked_14 : decode cX8_areAsked 14 = .ok (.iconst 1, 1) := by decide +kernel
theorem dX8_areAsked_15 : decode cX8_areAsked 15 = .ok (.if_icmp .ne 9, 3) := by decide +kernel
theorem dX8_areAsked_18 : decode cX8_areAsked 18 = .ok (.ldc2_w 176, 3) := by decide +kernel
theorem dX8_areAsked_21 : decode cX8_areAsked 21 = .ok (.goto 6, 3) := by decide +kernel
theorem dX8_areAsked_24 : decode cX8_areAsked 24 = .ok (.ldc2_w 178, 3) := by decide +kernel
theorem dX8_areAsked_27 : decode cX8_areAsked 27 = .ok (.invokestatic 98, 3) := by decide +kernel
theorem dX8_areAsked_30 : decode cX8_areAsked 30 = .ok (.ifCond .eq 19, 3) := by decide +kernel
theorem dX8_areAsked_33 : decode cX8_areAsked 33 = .ok (.iload_n 1, 1) := by decide +kernel
theorem dX8_areAsked_34 : decode cX8_areAsked 34 = .ok (.i2l, 1) := by decide +kernel
theorem dX8_areAsked_35 : decode cX8_areAsked 35 = .ok (.lconst 1, 1) := by decide +kernel
theorem dX8_areAsked_36 : decode cX8_areAsked 36 = .ok (.ldc2_w 112, 3) := by decide +kernel
theorem dX8_areAsked_39 : decode cX8_areAsked 39 = .ok (.invokestatic 98, 3) := by decide +kernel
theorem dX8_areAsked_42 : decode cX8_areAsked 42 = .ok (.ifCond .eq 7, 3) := by decide +kernel
theorem dX8_areAsked_45 : decode cX8_areAsked 45 = .ok (.iconst 1, 1) := by decide +kernel
theorem dX8_areAsked_46 : decode cX8_areAsked 46 = .ok (.goto 4, 3) := by decide +kernel
theorem dX8_areAsked_49 : decode cX8_areAsked 49 = .ok (.iconst 0, 1) := by decide +kernel
theorem dX8_areAsked_50 : decode cX8_areAsked 50 = .ok (.ireturn, 1) := by decide +kernel
def f_X8_areAsked (N : Nat) (x0 : Int32) (x1 : Int32) (x2 : Int32) (M : Mem) : Option (Int32) := bd (f_X8_in N x2.toInt64 (0 : Int64) (1 : Int64) M) (fun v1 => jn (fun (a49 : Unit) => some (0 : Int32)) (fun (k49 : Unit → Option (Int32)) => if v1 = 0 then (k49 ()) else (jn (fun (a27 : Int64) => bd (f_X8_in N x0.toInt64 (1 : Int64) a27 M) (fun v3 => if v3 = 0 then (k49 ()) else (bd (f_X8_in N x1.toInt64 (1 : Int64) (6 : Int64) M) (fun v5 => if v5 = 0 then (k49 ()) else (some (1 : Int32)))))) (fun (k27 : Int64 → Option (Int32)) => if x2 = (1 : Int32) then (k27 (16 : Int64)) else (k27 (40 : Int64))))))
set_option maxRecDepth 100000 in
set_option maxHeartbeats 4000000 in
theorem c_X8_areAsked {l : Launch} {D : va_G} {ac : Nat → ClassId} {A : Nat → Prop} {ad : Nat → Nat} {rest : va_W} (N : Nat) (x0 : Int32) (x1 : Int32) (x2 : Int32)  (M : Mem) (r0 : Int32) (hf : f_X8_areAsked N x0 x1 x2 M = some r0) : CtI l D ac A tabM ad rest yX8_areAsked cX8_areAsked 3 .boolean 2 [.int x0, .int x1, .int x2] M r0 M := by
  refine ct_ofI (own := RX8) (by decide +kernel) rfl (Nat.le_of_ble_eq_true rfl) ?_
  intro p e s m args below meth c C
  unfold f_X8_areAsked at hf
  refine a_L (L' := [(0, .int x0), (1, .int x1), (2, .int x2)]) rfl ?_
  refine a_iload_n (pc := 0) C dX8_areAsked_0 2 rfl ?_
  refine a_i2l (pc := 1) C dX8_areAsked_1 ?_
  refine a_lconst (pc := 2) (v := 0) C dX8_areAsked_2 (by decide) ?_
  refine a_lconst (pc := 3) (v := 1) C dX8_areAsked_3 (by decide) ?_
  refine a_callS_Ir (pc := 4) (d' := 1) C dX8_areAsked_4 ml_X8_98 mc_X8_in ms_X8_in [.long x2.toInt64, .long (0 : Int64), .long (1 : Int64)] rfl (Nat.le_of_ble_eq_true rfl) (Nat.le_of_ble_eq_true rfl) rfl (Nat.le_of_ble_eq_true rfl) (fun r h => c_X8_in N x2.toInt64 (0 : Int64) (1 : Int64)  _  r h) hf (fun v1 hf => ?_)
  refine a_jn 49 (fun a49 : Unit => []) (fun a49 : Unit => []) (fun a49 : Unit => M) hf (fun a49 hf => ?_) (fun k49 hk49 hf => ?_)
  · refine a_iconst (pc := 49) (v := 0) C dX8_areAsked_49 (by decide) ?_
    exact a_zret (pc := 50) C dX8_areAsked_50 (Or.inl rfl) (Option.some.inj hf) rfl
  · refine a_if_eq (pc := 7) 49 C dX8_areAsked_7 (by decide) hf (fun hf => ?_) (fun hf => ?_)
    · exact a_sub [] rfl (hk49 () hf)
    · refine a_iload_n (pc := 10) C dX8_areAsked_10 0 rfl ?_
      refine a_i2l (pc := 11) C dX8_areAsked_11 ?_
      refine a_lconst (pc := 12) (v := 1) C dX8_areAsked_12 (by decide) ?_
      refine a_iload_n (pc := 13) C dX8_areAsked_13 2 rfl ?_
      refine a_iconst (pc := 14) (v := 1) C dX8_areAsked_14 (by decide) ?_
      refine a_jn 27 (fun a27 : Int64 => [(1, .int x1)]) (fun a27 : Int64 => [.long a27, .long (1 : Int64), .long x0.toInt64]) (fun a27 : Int64 => M) hf (fun a27 hf => ?_) (fun k27 hk27 hf => ?_)
      · refine a_callS_Ir (pc := 27) (d' := 1) C dX8_areAsked_27 ml_X8_98 mc_X8_in ms_X8_in [.long x0.toInt64, .long (1 : Int64), .long a27] rfl (Nat.le_of_ble_eq_true rfl) (Nat.le_of_ble_eq_true rfl) rfl (Nat.le_of_ble_eq_true rfl) (fun r h => c_X8_in N x0.toInt64 (1 : Int64) a27  _  r h) hf (fun v3 hf => ?_)
        refine a_if_eq (pc := 30) 49 C dX8_areAsked_30 (by decide) hf (fun hf => ?_) (fun hf => ?_)
        · exact a_sub [] rfl (hk49 () hf)
        · refine a_iload_n (pc := 33) C dX8_areAsked_33 0 rfl ?_
          refine a_i2l (pc := 34) C dX8_areAsked_34 ?_
          refine a_lconst (pc := 35) (v := 1) C dX8_areAsked_35 (by decide) ?_
          refine a_ldc2 (pc := 36) C dX8_areAsked_36 cj_X8_112 ?_
          refine a_callS_Ir (pc := 39) (d' := 1) C dX8_areAsked_39 ml_X8_98 mc_X8_in ms_X8_in [.long x1.toInt64, .long (1 : Int64), .long (6 : Int64)] rfl (Nat.le_of_ble_eq_true rfl) (Nat.le_of_ble_eq_true rfl) rfl (Nat.le_of_ble_eq_true rfl) (fun r h => c_X8_in N x1.toInt64 (1 : Int64) (6 : Int64)  _  r h) hf (fun v5 hf => ?_)
          refine a_if_eq (pc := 42) 49 C dX8_areAsked_42 (by decide) hf (fun hf => ?_) (fun hf => ?_)
          · exact a_sub [] rfl (hk49 () hf)
          · refine a_iconst (pc := 45) (v := 1) C dX8_areAsked_45 (by decide) ?_
            refine a_goto (pc := 46) 50 C dX8_areAsked_46 (by decide) ?_
            exact a_zret (pc := 50) C dX8_areAsked_50 (Or.inr rfl) (Option.some.inj hf) rfl
      · refine a_icmp_ne (pc := 15) 24 C dX8_areAsked_15 (by decide) hf (fun hf => ?_) (fun hf => ?_)
        · refine a_ldc2 (pc := 24) C dX8_areAsked_24 cj_X8_178 ?_
          exact a_sub [1] rfl (hk27 (40 : Int64) hf)
        · refine a_ldc2 (pc := 18) C dX8_areAsked_18 cj_X8_176 ?_
          refine a_goto (pc := 21) 27 C dX8_areAsked_21 (by decide) ?_
          exact a_sub [1] rfl (hk27 (16 : Int64) hf)
theorem dX8_takes_0 : decode cX8_takes 0 = .ok (.iconst 0, 1) := by decide +kernel
theorem dX8_takes_1 : decode cX8_takes 1 = .ok (.istore_n 2, 1) := by decide +kernel
theorem dX8_takes_2 : decode cX8_takes 2 = .ok (.iconst 0, 1) := by decide +kernel
theorem dX8_takes_3 : decode cX8_takes 3 = .ok (.istore_n 3, 1) := by decide +kernel
theorem dX8_takes_4 : decode cX8_takes 4 = .ok (.iconst 1, 1) := by decide +kernel
theorem dX8_takes_5 : decode cX8_takes 5 = .ok (.istore 4, 2) := by decide +kernel
theorem dX8_takes_7 : decode cX8_takes 7 = .ok (.iconst (-1), 1) := by decide +kernel
theorem dX8_takes_8 : decode cX8_takes 8 = .ok (.istore 5, 2) := by decide +kernel
theorem dX8_takes_10 : decode cX8_takes 10 = .ok (.iconst 0, 1) := by decide +kernel
theorem dX8_takes_11 : decode cX8_takes 11 = .ok (.istore 6, 2) := by decide +kernel
theorem dX8_takes_13 : decode cX8_takes 13 = .ok (.iload 6, 2) := by decide +kernel
theorem dX8_takes_15 : decode cX8_takes 15 = .ok (.aload_n 0, 1) := by decide +kernel
theorem dX8_takes_16 : decode cX8_takes 16 = .ok (.getfield 95, 3) := by decide +kernel
theorem dX8_takes_19 : decode cX8_takes 19 = .ok (.if_icmp .ge 137, 3) := by decide +kernel
theorem dX8_takes_22 : decode cX8_takes 22 = .ok (.iconst 0, 1) := by decide +kernel
theorem dX8_takes_23 : decode cX8_takes 23 = .ok (.istore 7, 2) := by decide +kernel
theorem dX8_takes_25 : decode cX8_takes 25 = .ok (.iconst 0, 1) := by decide +kernel
theorem dX8_takes_26 : decode cX8_takes 26 = .ok (.istore 8, 2) := by decide +kernel
theorem dX8_takes_28 : decode cX8_takes 28 = .ok (.iload 8, 2) := by decide +kernel
theorem dX8_takes_30 : decode cX8_takes 30 = .ok (.aload_n 0, 1) := by decide +kernel
theorem dX8_takes_31 : decode cX8_takes 31 = .ok (.getfield 102, 3) := by decide +kernel
theorem dX8_takes_34 : decode cX8_takes 34 = .ok (.if_icmp .ge 52, 3) := by decide +kernel
theorem dX8_takes_37 : decode cX8_takes 37 = .ok (.iload 7, 2) := by decide +kernel
theorem dX8_takes_39 : decode cX8_takes 39 = .ok (.iload_n 1, 1) := by decide +kernel
theorem dX8_takes_40 : decode cX8_takes 40 = .ok (.iload 8, 2) := by decide +kernel
theorem dX8_takes_42 : decode cX8_takes 42 = .ok (.invokestatic 158, 3) := by decide +kernel
theorem dX8_takes_45 : decode cX8_takes 45 = .ok (.ifCond .eq 31, 3) := by decide +kernel
theorem dX8_takes_48 : decode cX8_takes 48 = .ok (.aload_n 0, 1) := by decide +kernel
theorem dX8_takes_49 : decode cX8_takes 49 = .ok (.getfield 20, 3) := by decide +kernel
theorem dX8_takes_52 : decode cX8_takes 52 = .ok (.iload 8, 2) := by decide +kernel
theorem dX8_takes_54 : decode cX8_takes 54 = .ok (.iaload, 1) := by decide +kernel
theorem dX8_takes_55 : decode cX8_takes 55 = .ok (.iload 6, 2) := by decide +kernel
theorem dX8_takes_57 : decode cX8_takes 57 = .ok (.if_icmp .eq 15, 3) := by decide +kernel
theorem dX8_takes_60 : decode cX8_takes 60 = .ok (.aload_n 0, 1) := by decide +kernel
theorem dX8_takes_61 : decode cX8_takes 61 = .ok (.getfield 23, 3) := by decide +kernel
theorem dX8_takes_64 : decode cX8_takes 64 = .ok (.iload 8, 2) := by decide +kernel
theorem dX8_takes_66 : decode cX8_takes 66 = .ok (.iaload, 1) := by decide +kernel
theorem dX8_takes_67 : decode cX8_takes 67 = .ok (.iload 6, 2) := by decide +kernel
theorem dX8_takes_69 : decode cX8_takes 69 = .ok (.if_icmp .ne 7, 3) := by decide +kernel
theorem dX8_takes_72 : decode cX8_takes 72 = .ok (.iconst 1, 1) := by decide +kernel
theorem dX8_takes_73 : decode cX8_takes 73 = .ok (.goto 4, 3) := by decide +kernel
theorem dX8_takes_76 : decode cX8_takes 76 = .ok (.iconst 0, 1) := by decide +kernel
theorem dX8_takes_77 : decode cX8_takes 77 = .ok (.iadd, 1) := by decide +kernel
theorem dX8_takes_78 : decode cX8_takes 78 = .ok (.istore 7, 2) := by decide +kernel
theorem dX8_takes_80 : decode cX8_takes 80 = .ok (.iinc 8 1, 3) := by decide +kernel
theorem dX8_takes_83 : decode cX8_takes 83 = .ok (.goto (-55), 3) := by decide +kernel
theorem dX8_takes_86 : decode cX8_takes 86 = .ok (.iload 4, 2) := by decide +kernel
theorem dX8_takes_88 : decode cX8_takes 88 = .ok (.ifCond .eq 18, 3) := by decide +kernel
theorem dX8_takes_91 : decode cX8_takes 91 = .ok (.iload 7, 2) := by decide +kernel
theorem dX8_takes_93 : decode cX8_takes 93 = .ok (.ifCond .eq 9, 3) := by decide +kernel
theorem dX8_takes_96 : decode cX8_takes 96 = .ok (.iload 7, 2) := by decide +kernel
theorem dX8_takes_98 : decode cX8_takes 98 = .ok (.iconst 2, 1) := by decide +kernel
theorem dX8_takes_99 : decode cX8_takes 99 = .ok (.if_icmp .ne 7, 3) := by decide +kernel
theorem dX8_takes_102 : decode cX8_takes 102 = .ok (.iconst 1, 1) := by decide +kernel
theorem dX8_takes_103 : decode cX8_takes 103 = .ok (.goto 4, 3) := by decide +kernel
theorem dX8_takes_106 : decode cX8_takes 106 = .ok (.iconst 0, 1) := by decide +kernel
theorem dX8_takes_107 : decode cX8_takes 107 = .ok (.istore 4, 2) := by decide +kernel
theorem dX8_takes_109 : decode cX8_takes 109 = .ok (.iload_n 3, 1) := by decide +kernel
theorem dX8_takes_110 : decode cX8_takes 110 = .ok (.iload 7, 2) := by decide +kernel
theorem dX8_takes_112 : decode cX8_takes 112 = .ok (.ifCond .le 10, 3) := by decide +kernel
theorem dX8_takes_115 : decode cX8_takes 115 = .ok (.iconst 1, 1) := by decide +kernel
theorem dX8_takes_116 : decode cX8_takes 116 = .ok (.iload 6, 2) := by decide +kernel
theorem dX8_takes_118 : decode cX8_takes 118 = .ok (.ishl, 1) := by decide +kernel
theorem dX8_takes_119 : decode cX8_takes 119 = .ok (.goto 4, 3) := by decide +kernel
theorem dX8_takes_122 : decode cX8_takes 122 = .ok (.iconst 0, 1) := by decide +kernel
theorem dX8_takes_123 : decode cX8_takes 123 = .ok (.ior, 1) := by decide +kernel
theorem dX8_takes_124 : decode cX8_takes 124 = .ok (.istore_n 3, 1) := by decide +kernel
theorem dX8_takes_125 : decode cX8_takes 125 = .ok (.iload 7, 2) := by decide +kernel
theorem dX8_takes_127 : decode cX8_takes 127 = .ok (.ifCond .le 14, 3) := by decide +kernel
theorem dX8_takes_130 : decode cX8_takes 130 = .ok (.iload 5, 2) := by decide +kernel
theorem dX8_takes_132 : decode cX8_takes 132 = .ok (.iconst (-1), 1) := by decide +kernel
theorem dX8_takes_133 : decode cX8_takes 133 = .ok (.if_icmp .ne 8, 3) := by decide +kernel
theorem dX8_takes_136 : decode cX8_takes 136 = .ok (.iload 6, 2) := by decide +kernel
theorem dX8_takes_138 : decode cX8_takes 138 = .ok (.goto 5, 3) := by decide +kernel
theorem dX8_takes_141 : decode cX8_takes 141 = .ok (.iload 5, 2) := by decide +kernel
theorem dX8_takes_143 : decode cX8_takes 143 = .ok (.istore 5, 2) := by decide +kernel
theorem dX8_takes_145 : decode cX8_takes 145 = .ok (.iload_n 2, 1) := by decide +kernel
theorem dX8_takes_146 : decode cX8_takes 146 = .ok (.iload 7, 2) := by decide +kernel
theorem dX8_takes_148 : decode cX8_takes 148 = .ok (.iadd, 1) := by decide +kernel
theorem dX8_takes_149 : decode cX8_takes 149 = .ok (.istore_n 2, 1) := by decide +kernel
theorem dX8_takes_150 : decode cX8_takes 150 = .ok (.iinc 6 1, 3) := by decide +kernel
theorem dX8_takes_153 : decode cX8_takes 153 = .ok (.goto (-140), 3) := by decide +kernel
theorem dX8_takes_156 : decode cX8_takes 156 = .ok (.iload 5, 2) := by decide +kernel
theorem dX8_takes_158 : decode cX8_takes 158 = .ok (.istore 6, 2) := by decide +kernel
theorem dX8_takes_160 : decode cX8_takes 160 = .ok (.iload_n 1, 1) := by decide +kernel
theorem dX8_takes_161 : decode cX8_takes 161 = .ok (.istore 7, 2) := by decide +kernel
theorem dX8_takes_163 : decode cX8_takes 163 = .ok (.iconst 0, 1) := by decide +kernel
theorem dX8_takes_164 : decode cX8_takes 164 = .ok (.istore 8, 2) := by decide +kernel
theorem dX8_takes_166 : decode cX8_takes 166 = .ok (.iload 4, 2) := by decide +kernel
theorem dX8_takes_168 : decode cX8_takes 168 = .ok (.ifCond .eq 145, 3) := by decide +kernel
theorem dX8_takes_171 : decode cX8_takes 171 = .ok (.iload 7, 2) := by decide +kernel
theorem dX8_takes_173 : decode cX8_takes 173 = .ok (.ifCond .eq 140, 3) := by decide +kernel
theorem dX8_takes_176 : decode cX8_takes 176 = .ok (.iconst 0, 1) := by decide +kernel
theorem dX8_takes_177 : decode cX8_takes 177 = .ok (.istore 9, 2) := by decide +kernel
theorem dX8_takes_179 : decode cX8_takes 179 = .ok (.iload 9, 2) := by decide +kernel
theorem dX8_takes_181 : decode cX8_takes 181 = .ok (.aload_n 0, 1) := by decide +kernel
theorem dX8_takes_182 : decode cX8_takes 182 = .ok (.getfield 102, 3) := by decide +kernel
theorem dX8_takes_185 : decode cX8_takes 185 = .ok (.if_icmp .ge 43, 3) := by decide +kernel
theorem dX8_takes_188 : decode cX8_takes 188 = .ok (.iload 7, 2) := by decide +kernel
theorem dX8_takes_190 : decode cX8_takes 190 = .ok (.iload 9, 2) := by decide +kernel
theorem dX8_takes_192 : decode cX8_takes 192 = .ok (.invokestatic 158, 3) := by decide +kernel
theorem dX8_takes_195 : decode cX8_takes 195 = .ok (.ifCond .eq 27, 3) := by decide +kernel
theorem dX8_takes_198 : decode cX8_takes 198 = .ok (.aload_n 0, 1) := by decide +kernel
theorem dX8_takes_199 : decode cX8_takes 199 = .ok (.getfield 20, 3) := by decide +kernel
theorem dX8_takes_202 : decode cX8_takes 202 = .ok (.iload 9, 2) := by decide +kernel
theorem dX8_takes_204 : decode cX8_takes 204 = .ok (.iaload, 1) := by decide +kernel
theorem dX8_takes_205 : decode cX8_takes 205 = .ok (.iload 6, 2) := by decide +kernel
theorem dX8_takes_207 : decode cX8_takes 207 = .ok (.if_icmp .eq 21, 3) := by decide +kernel
theorem dX8_takes_210 : decode cX8_takes 210 = .ok (.aload_n 0, 1) := by decide +kernel
theorem dX8_takes_211 : decode cX8_takes 211 = .ok (.getfield 23, 3) := by decide +kernel
theorem dX8_takes_214 : decode cX8_takes 214 = .ok (.iload 9, 2) := by decide +kernel
theorem dX8_takes_216 : decode cX8_takes 216 = .ok (.iaload, 1) := by decide +kernel
theorem dX8_takes_217 : decode cX8_takes 217 = .ok (.iload 6, 2) := by decide +kernel
theorem dX8_takes_219 : decode cX8_takes 219 = .ok (.if_icmp .eq 9, 3) := by decide +kernel
theorem dX8_takes_222 : decode cX8_takes 222 = .ok (.iinc 9 1, 3) := by decide +kernel
theorem dX8_takes_225 : decode cX8_takes 225 = .ok (.goto (-46), 3) := by decide +kernel
theorem dX8_takes_228 : decode cX8_takes 228 = .ok (.iload 9, 2) := by decide +kernel
theorem dX8_takes_230 : decode cX8_takes 230 = .ok (.aload_n 0, 1) := by decide +kernel
theorem dX8_takes_231 : decode cX8_takes 231 = .ok (.getfield 102, 3) := by decide +kernel
theorem dX8_takes_234 : decode cX8_takes 234 = .ok (.if_icmp .ne 9, 3) := by decide +kernel
theorem dX8_takes_237 : decode cX8_takes 237 = .ok (.iconst 0, 1) := by decide +kernel
theorem dX8_takes_238 : decode cX8_takes 238 = .ok (.istore 4, 2) := by decide +kernel
theorem dX8_takes_240 : decode cX8_takes 240 = .ok (.goto 70, 3) := by decide +kernel
theorem dX8_takes_243 : decode cX8_takes 243 = .ok (.iload 8, 2) := by decide +kernel
theorem dX8_takes_245 : decode cX8_takes 245 = .ok (.aload_n 0, 1) := by decide +kernel
theorem dX8_takes_246 : decode cX8_takes 246 = .ok (.getfield 23, 3) := by decide +kernel
theorem dX8_takes_249 : decode cX8_takes 249 = .ok (.iload 9, 2) := by decide +kernel
theorem dX8_takes_251 : decode cX8_takes 251 = .ok (.iaload, 1) := by decide +kernel
theorem dX8_takes_252 : decode cX8_takes 252 = .ok (.iload 6, 2) := by decide +kernel
theorem dX8_takes_254 : decode cX8_takes 254 = .ok (.if_icmp .ne 10, 3) := by decide +kernel
theorem dX8_takes_257 : decode cX8_takes 257 = .ok (.iconst 1, 1) := by decide +kernel
theorem dX8_takes_258 : decode cX8_takes 258 = .ok (.iload 9, 2) := by decide +kernel
theorem dX8_takes_260 : decode cX8_takes 260 = .ok (.ishl, 1) := by decide +kernel
theorem dX8_takes_261 : decode cX8_takes 261 = .ok (.goto 4, 3) := by decide +kernel
theorem dX8_takes_264 : decode cX8_takes 264 = .ok (.iconst 0, 1) := by decide +kernel
theorem dX8_takes_265 : decode cX8_takes 265 = .ok (.ior, 1) := by decide +kernel
theorem dX8_takes_266 : decode cX8_takes 266 = .ok (.istore 8, 2) := by decide +kernel
theorem dX8_takes_268 : decode cX8_takes 268 = .ok (.iload 7, 2) := by decide +kernel
theorem dX8_takes_270 : decode cX8_takes 270 = .ok (.iconst 1, 1) := by decide +kernel
theorem dX8_takes_271 : decode cX8_takes 271 = .ok (.iload 9, 2) := by decide +kernel
theorem dX8_takes_273 : decode cX8_takes 273 = .ok (.ishl, 1) := by decide +kernel
theorem dX8_takes_274 : decode cX8_takes 274 = .ok (.iconst (-1), 1) := by decide +kernel
theorem dX8_takes_275 : decode cX8_takes 275 = .ok (.ixor, 1) := by decide +kernel
theorem dX8_takes_276 : decode cX8_takes 276 = .ok (.iand, 1) := by decide +kernel
theorem dX8_takes_277 : decode cX8_takes 277 = .ok (.istore 7, 2) := by decide +kernel
theorem dX8_takes_279 : decode cX8_takes 279 = .ok (.aload_n 0, 1) := by decide +kernel
theorem dX8_takes_280 : decode cX8_takes 280 = .ok (.getfield 20, 3) := by decide +kernel
theorem dX8_takes_283 : decode cX8_takes 283 = .ok (.iload 9, 2) := by decide +kernel
theorem dX8_takes_285 : decode cX8_takes 285 = .ok (.iaload, 1) := by decide +kernel
theorem dX8_takes_286 : decode cX8_takes 286 = .ok (.iload 6, 2) := by decide +kernel
theorem dX8_takes_288 : decode cX8_takes 288 = .ok (.if_icmp .ne 13, 3) := by decide +kernel
theorem dX8_takes_291 : decode cX8_takes 291 = .ok (.aload_n 0, 1) := by decide +kernel
theorem dX8_takes_292 : decode cX8_takes 292 = .ok (.getfield 23, 3) := by decide +kernel
theorem dX8_takes_295 : decode cX8_takes 295 = .ok (.iload 9, 2) := by decide +kernel
theorem dX8_takes_297 : decode cX8_takes 297 = .ok (.iaload, 1) := by decide +kernel
theorem dX8_takes_298 : decode cX8_takes 298 = .ok (.goto 10, 3) := by decide +kernel
theorem dX8_takes_301 : decode cX8_takes 301 = .ok (.aload_n 0, 1) := by decide +kernel
theorem dX8_takes_302 : decode cX8_takes 302 = .ok (.getfield 20, 3) := by decide +kernel
theorem dX8_takes_305 : decode cX8_takes 305 = .ok (.iload 9, 2) := by decide +kernel
theorem dX8_takes_307 : decode cX8_takes 307 = .ok (.iaload, 1) := by decide +kernel
theorem dX8_takes_308 : decode cX8_takes 308 = .ok (.istore 6, 2) := by decide +kernel
theorem dX8_takes_310 : decode cX8_takes 310 = .ok (.goto (-144), 3) := by decide +kernel
theorem dX8_takes_313 : decode cX8_takes 313 = .ok (.iload 4, 2) := by decide +kernel
theorem dX8_takes_315 : decode cX8_takes 315 = .ok (.ifCond .ne 13, 3) := by decide +kernel
theorem dX8_takes_318 : decode cX8_takes 318 = .ok (.iload_n 1, 1) := by decide +kernel
theorem dX8_takes_319 : decode cX8_takes 319 = .ok (.i2l, 1) := by decide +kernel
theorem dX8_takes_320 : decode cX8_takes 320 = .ok (.invokestatic 162, 3) := by decide +kernel
theorem dX8_takes_323 : decode cX8_takes 323 = .ok (.iconst 1, 1) := by decide +kernel
theorem dX8_takes_324 : decode cX8_takes 324 = .ok (.if_icmp .eq 4, 3) := by decide +kernel
theorem dX8_takes_327 : decode cX8_takes 327 = .ok (.return_, 1) := by decide +kernel
theorem dX8_takes_328 : decode cX8_takes 328 = .ok (.aload_n 0, 1) := by decide +kernel
theorem dX8_takes_329 : decode cX8_takes 329 = .ok (.getfield 41, 3) := by decide +kernel
theorem dX8_takes_332 : decode cX8_takes 332 = .ok (.aload_n 0, 1) := by decide +kernel
theorem dX8_takes_333 : decode cX8_takes 333 = .ok (.getfield 197, 3) := by decide +kernel
theorem dX8_takes_336 : decode cX8_takes 336 = .ok (.iload_n 1, 1) := by decide +kernel
theorem dX8_takes_337 : decode cX8_takes 337 = .ok (.iastore, 1) := by decide +kernel
theorem dX8_takes_338 : decode cX8_takes 338 = .ok (.aload_n 0, 1) := by decide +kernel
theorem dX8_takes_339 : decode cX8_takes 339 = .ok (.getfield 44, 3) := by decide +kernel
theorem dX8_takes_342 : decode cX8_takes 342 = .ok (.aload_n 0, 1) := by decide +kernel
theorem dX8_takes_343 : decode cX8_takes 343 = .ok (.getfield 197, 3) := by decide +kernel
theorem dX8_takes_346 : decode cX8_takes 346 = .ok (.iload 8, 2) := by decide +kernel
theorem dX8_takes_348 : decode cX8_takes 348 = .ok (.iastore, 1) := by decide +kernel
theorem dX8_takes_349 : decode cX8_takes 349 = .ok (.aload_n 0, 1) := by decide +kernel
theorem dX8_takes_350 : decode cX8_takes 350 = .ok (.getfield 47, 3) := by decide +kernel
theorem dX8_takes_353 : decode cX8_takes 353 = .ok (.aload_n 0, 1) := by decide +kernel
theorem dX8_takes_354 : decode cX8_takes 354 = .ok (.getfield 197, 3) := by decide +kernel
theorem dX8_takes_357 : decode cX8_takes 357 = .ok (.iload_n 3, 1) := by decide +kernel
theorem dX8_takes_358 : decode cX8_takes 358 = .ok (.iastore, 1) := by decide +kernel
theorem dX8_takes_359 : decode cX8_takes 359 = .ok (.aload_n 0, 1) := by decide +kernel
theorem dX8_takes_360 : decode cX8_takes 360 = .ok (.dup, 1) := by decide +kernel
theorem dX8_takes_361 : decode cX8_takes 361 = .ok (.getfield 197, 3) := by decide +kernel
theorem dX8_takes_364 : decode cX8_takes 364 = .ok (.iconst 1, 1) := by decide +kernel
theorem dX8_takes_365 : decode cX8_takes 365 = .ok (.iadd, 1) := by decide +kernel
theorem dX8_takes_366 : decode cX8_takes 366 = .ok (.putfield 197, 3) := by decide +kernel
theorem dX8_takes_369 : decode cX8_takes 369 = .ok (.return_, 1) := by decide +kernel
def f_X8_takes (N : Nat) (x1 : Int32) (M : Mem) : Option (Mem) := lp (fun (k13 : (Int32 × Int32 × Int32 × Int32 × Int32) → Option (Mem)) (a13 : Int32 × Int32 × Int32 × Int32 × Int32) => if (M.1 0 0) ≤ a13.2.2.2.2 then (lp (fun (k166 : (Int32 × Int32 × Int32 × Int32) → Option (Mem)) (a166 : Int32 × Int32 × Int32 × Int32) => jn (fun (a313 : Unit) => jn (fun (a328 : Unit) => ck (inb (M.1 0 17) 200) (nm (setI M 8 (M.1 0 17).toNatClampNeg x1) (fun M1 => ck (inb (M1.1 0 17) 200) (nm (setI M1 9 (M1.1 0 17).toNatClampNeg a166.2.2.2) (fun M2 => ck (inb (M2.1 0 17) 200) (nm (setI M2 10 (M2.1 0 17).toNatClampNeg a13.2.1) (fun M3 => nm (setI M3 0 17 ((M3.1 0 17) + (1 : Int32))) (fun M4 => some M4)))))))) (fun (k328 : Unit → Option (Mem)) => if a166.1 = 0 then (bd (f_X8_bits N x1.toInt64 M) (fun v5 => if v5 = (1 : Int32) then (k328 ()) else (some M))) else (k328 ()))) (fun (k313 : Unit → Option (Mem)) => if a166.1 = 0 then (k313 ()) else (if a166.2.2.1 = 0 then (k313 ()) else (lp (fun (k179 : Int32 → Option (Mem)) (a179 : Int32) => jn (fun (a228 : Unit) => jn (fun (a310 : Int32 × Int32 × Int32 × Int32) => k166 (a310.1, a310.2.1, a310.2.2.1, a310.2.2.2)) (fun (k310 : (Int32 × Int32 × Int32 × Int32) → Option (Mem)) => if a179 = (M.1 0 1) then (k310 ((0 : Int32), a166.2.1, a166.2.2.1, a166.2.2.2)) else (ck (inb a179 10) (jn (fun (a265 : Int32) => nm (a166.2.2.2 ||| a265) (fun v7 => nm (a166.2.2.1 &&& (((1 : Int32) <<< (a179 &&& 31)) ^^^ (-1 : Int32))) (fun v8 => ck (inb a179 10) (jn (fun (a308 : Int32) => k310 (a166.1, a308, v8, v7)) (fun (k308 : Int32 → Option (Mem)) => if (M.1 3 a179.toNatClampNeg) = a166.2.1 then (ck (inb a179 10) (k308 (M.1 4 a179.toNatClampNeg))) else (ck (inb a179 10) (k308 (M.1 3 a179.toNatClampNeg)))))))) (fun (k265 : Int32 → Option (Mem)) => if (M.1 4 a179.toNatClampNeg) = a166.2.1 then (k265 ((1 : Int32) <<< (a179 &&& 31))) else (k265 (0 : Int32))))))) (fun (k228 : Unit → Option (Mem)) => if (M.1 0 1) ≤ a179 then (k228 ()) else (bd (f_X8_has N a166.2.2.1 a179 M) (fun v9 => jn (fun (a222 : Unit) => nm (a179 + (1 : Int32)) (fun v11 => k179 v11)) (fun (k222 : Unit → Option (Mem)) => if v9 = 0 then (k222 ()) else (ck (inb a179 10) (if (M.1 3 a179.toNatClampNeg) = a166.2.1 then (k228 ()) else (ck (inb a179 10) (if (M.1 4 a179.toNatClampNeg) = a166.2.1 then (k228 ()) else (k222 ())))))))))) N (0 : Int32))))) N (a13.2.2.1, a13.2.2.2.1, x1, (0 : Int32))) else (lp (fun (k28 : (Int32 × Int32) → Option (Mem)) (a28 : Int32 × Int32) => if (M.1 0 1) ≤ a28.2 then (jn (fun (a107 : Int32) => jn (fun (a123 : Int32) => nm (a13.2.1 ||| a123) (fun v12 => jn (fun (a143 : Int32) => nm (a13.1 + a28.1) (fun v13 => nm (a13.2.2.2.2 + (1 : Int32)) (fun v14 => k13 (v13, v12, a107, a143, v14)))) (fun (k143 : Int32 → Option (Mem)) => jn (fun (a141 : Unit) => k143 a13.2.2.2.1) (fun (k141 : Unit → Option (Mem)) => if a28.1 ≤ 0 then (k141 ()) else (if a13.2.2.2.1 = (-1 : Int32) then (k143 a13.2.2.2.2) else (k141 ())))))) (fun (k123 : Int32 → Option (Mem)) => if a28.1 ≤ 0 then (k123 (0 : Int32)) else (k123 ((1 : Int32) <<< (a13.2.2.2.2 &&& 31))))) (fun (k107 : Int32 → Option (Mem)) => jn (fun (a106 : Unit) => k107 (0 : Int32)) (fun (k106 : Unit → Option (Mem)) => if a13.2.2.1 = 0 then (k106 ()) else (jn (fun (a102 : Unit) => k107 (1 : Int32)) (fun (k102 : Unit → Option (Mem)) => if a28.1 = 0 then (k102 ()) else (if a28.1 = (2 : Int32) then (k102 ()) else (k106 ()))))))) else (bd (f_X8_has N x1 a28.2 M) (fun v15 => jn (fun (a77 : Int32) => nm (a28.1 + a77) (fun v17 => nm (a28.2 + (1 : Int32)) (fun v18 => k28 (v17, v18)))) (fun (k77 : Int32 → Option (Mem)) => jn (fun (a76 : Unit) => k77 (0 : Int32)) (fun (k76 : Unit → Option (Mem)) => if v15 = 0 then (k76 ()) else (ck (inb a28.2 10) (jn (fun (a72 : Unit) => k77 (1 : Int32)) (fun (k72 : Unit → Option (Mem)) => if (M.1 3 a28.2.toNatClampNeg) = a13.2.2.2.2 then (k72 ()) else (ck (inb a28.2 10) (if (M.1 4 a28.2.toNatClampNeg) = a13.2.2.2.2 then (k72 ()) else (k76 ()))))))))))) N ((0 : Int32), (0 : Int32)))) N ((0 : Int32), (0 : Int32), (1 : Int32), (-1 : Int32), (0 : Int32))
set_option maxRecDepth 100000 in
set_option maxHeartbeats 4000000 in
theorem c_X8_takes {l : Launch} {D : va_G} {ac : Nat → ClassId} {A : Nat → Prop} {ad : Nat → Nat} {rest : va_W} (N : Nat) (x1 : Int32)  (M : Mem)  (M0 : Mem) (hf : f_X8_takes N x1 M = some M0) : CtV l D ac A tabM ad rest yX8_takes cX8_takes 10  2 [.ref (ad 0), .int x1] M  M0 := by
  refine ct_ofV (own := RX8) (by decide +kernel) rfl (Nat.le_of_ble_eq_true rfl) ?_
  intro p e s m args below meth c C
  unfold f_X8_takes at hf
  refine a_L (L' := [(0, .ref (ad 0)), (1, .int x1)]) rfl ?_
  refine a_iconst (pc := 0) (v := 0) C dX8_takes_0 (by decide) ?_
  refine a_istore_n (pc := 1) [(2, .int (0 : Int32)), (0, .ref (ad 0)), (1, .int x1)] C dX8_takes_1 (by decide) rfl ?_
  refine a_iconst (pc := 2) (v := 0) C dX8_takes_2 (by decide) ?_
  refine a_istore_n (pc := 3) [(3, .int (0 : Int32)), (2, .int (0 : Int32)), (0, .ref (ad 0)), (1, .int x1)] C dX8_takes_3 (by decide) rfl ?_
  refine a_iconst (pc := 4) (v := 1) C dX8_takes_4 (by decide) ?_
  refine a_istore (pc := 5) [(4, .int (1 : Int32)), (3, .int (0 : Int32)), (2, .int (0 : Int32)), (0, .ref (ad 0)), (1, .int x1)] C dX8_takes_5 (by decide) rfl ?_
  refine a_iconst (pc := 7) (v := (-1)) C dX8_takes_7 (by decide) ?_
  refine a_istore (pc := 8) [(5, .int (-1 : Int32)), (4, .int (1 : Int32)), (3, .int (0 : Int32)), (2, .int (0 : Int32)), (0, .ref (ad 0)), (1, .int x1)] C dX8_takes_8 (by decide) rfl ?_
  refine a_iconst (pc := 10) (v := 0) C dX8_takes_10 (by decide) ?_
  refine a_istore (pc := 11) [(6, .int (0 : Int32)), (5, .int (-1 : Int32)), (4, .int (1 : Int32)), (3, .int (0 : Int32)), (2, .int (0 : Int32)), (0, .ref (ad 0)), (1, .int x1)] C dX8_takes_11 (by decide) rfl ?_
  refine a_sub [5, 6, 4, 3, 2, 1, 0] rfl ?_
  refine a_lp 13 (fun a13 : Int32 × Int32 × Int32 × Int32 × Int32 => [(0, .ref (ad 0)), (1, .int x1), (2, .int a13.1), (3, .int a13.2.1), (4, .int a13.2.2.1), (5, .int a13.2.2.2.1), (6, .int a13.2.2.2.2)]) (fun a13 : Int32 × Int32 × Int32 × Int32 × Int32 => []) (fun a13 : Int32 × Int32 × Int32 × Int32 × Int32 => M) (fun k13 a13 hk13 hf => ?_) N ((0 : Int32), (0 : Int32), (1 : Int32), (-1 : Int32), (0 : Int32)) hf
  refine a_iload (pc := 13) C dX8_takes_13 6 rfl ?_
  refine a_aload_n (pc := 15) C dX8_takes_15 0 rfl ?_
  refine a_getI (pc := 16) C dX8_takes_16 fl_X8_95 tm_0 rfl ?_
  refine a_icmp_ge (pc := 19) 156 C dX8_takes_19 (by decide) hf (fun hf => ?_) (fun hf => ?_)
  · refine a_iload (pc := 156) C dX8_takes_156 5 rfl ?_
    refine a_istore (pc := 158) [(6, .int a13.2.2.2.1), (0, .ref (ad 0)), (1, .int x1), (2, .int a13.1), (3, .int a13.2.1), (4, .int a13.2.2.1), (5, .int a13.2.2.2.1)] C dX8_takes_158 (by decide) rfl ?_
    refine a_iload_n (pc := 160) C dX8_takes_160 2 rfl ?_
    refine a_istore (pc := 161) [(7, .int x1), (6, .int a13.2.2.2.1), (0, .ref (ad 0)), (1, .int x1), (2, .int a13.1), (3, .int a13.2.1), (4, .int a13.2.2.1), (5, .int a13.2.2.2.1)] C dX8_takes_161 (by decide) rfl ?_
    refine a_iconst (pc := 163) (v := 0) C dX8_takes_163 (by decide) ?_
    refine a_istore (pc := 164) [(8, .int (0 : Int32)), (7, .int x1), (6, .int a13.2.2.2.1), (0, .ref (ad 0)), (1, .int x1), (2, .int a13.1), (3, .int a13.2.1), (4, .int a13.2.2.1), (5, .int a13.2.2.2.1)] C dX8_takes_164 (by decide) rfl ?_
    refine a_sub [3, 4, 6, 7, 2, 1, 0] rfl ?_
    refine a_lp 166 (fun a166 : Int32 × Int32 × Int32 × Int32 => [(0, .ref (ad 0)), (1, .int x1), (3, .int a13.2.1), (4, .int a166.1), (6, .int a166.2.1), (7, .int a166.2.2.1), (8, .int a166.2.2.2)]) (fun a166 : Int32 × Int32 × Int32 × Int32 => []) (fun a166 : Int32 × Int32 × Int32 × Int32 => M) (fun k166 a166 hk166 hf => ?_) N (a13.2.2.1, a13.2.2.2.1, x1, (0 : Int32)) hf
    refine a_iload (pc := 166) C dX8_takes_166 3 rfl ?_
    refine a_jn 313 (fun a313 : Unit => [(0, .ref (ad 0)), (1, .int x1), (3, .int a13.2.1), (4, .int a166.1), (8, .int a166.2.2.2)]) (fun a313 : Unit => []) (fun a313 : Unit => M) hf (fun a313 hf => ?_) (fun k313 hk313 hf => ?_)
    · refine a_iload (pc := 313) C dX8_takes_313 3 rfl ?_
      refine a_jn 328 (fun a328 : Unit => [(0, .ref (ad 0)), (1, .int x1), (3, .int a13.2.1), (8, .int a166.2.2.2)]) (fun a328 : Unit => []) (fun a328 : Unit => M) hf (fun a328 hf => ?_) (fun k328 hk328 hf => ?_)
      · refine a_aload_n (pc := 328) C dX8_takes_328 0 rfl ?_
        refine a_getR (pc := 329) C dX8_takes_329 fl_X8_41 tm_0 rfl ?_
        refine a_aload_n (pc := 332) C dX8_takes_332 0 rfl ?_
        refine a_getI (pc := 333) C dX8_takes_333 fl_X8_197 tm_0 rfl ?_
        refine a_iload_n (pc := 336) C dX8_takes_336 1 rfl ?_
        refine a_iast (pc := 337) C dX8_takes_337 tm_8 hf (fun M1 hf => ?_)
        refine a_aload_n (pc := 338) C dX8_takes_338 0 rfl ?_
        refine a_getR (pc := 339) C dX8_takes_339 fl_X8_44 tm_0 rfl ?_
        refine a_aload_n (pc := 342) C dX8_takes_342 0 rfl ?_
        refine a_getI (pc := 343) C dX8_takes_343 fl_X8_197 tm_0 rfl ?_
        refine a_iload (pc := 346) C dX8_takes_346 3 rfl ?_
        refine a_iast (pc := 348) C dX8_takes_348 tm_9 hf (fun M2 hf => ?_)
        refine a_aload_n (pc := 349) C dX8_takes_349 0 rfl ?_
        refine a_getR (pc := 350) C dX8_takes_350 fl_X8_47 tm_0 rfl ?_
        refine a_aload_n (pc := 353) C dX8_takes_353 0 rfl ?_
        refine a_getI (pc := 354) C dX8_takes_354 fl_X8_197 tm_0 rfl ?_
        refine a_iload_n (pc := 357) C dX8_takes_357 2 rfl ?_
        refine a_iast (pc := 358) C dX8_takes_358 tm_10 hf (fun M3 hf => ?_)
        refine a_aload_n (pc := 359) C dX8_takes_359 0 rfl ?_
        refine a_dup (pc := 360) C dX8_takes_360 rfl ?_
        refine a_getI (pc := 361) C dX8_takes_361 fl_X8_197 tm_0 rfl ?_
        refine a_iconst (pc := 364) (v := 1) C dX8_takes_364 (by decide) ?_
        refine a_iadd (pc := 365) C dX8_takes_365 ?_
        refine a_putI (pc := 366) C dX8_takes_366 fl_X8_197 tm_0 rfl hf (fun M4 hf => ?_)
        exact a_vret (pc := 369) C dX8_takes_369 (Option.some.inj hf)
      · refine a_if_ne (pc := 315) 328 C dX8_takes_315 (by decide) hf (fun hf => ?_) (fun hf => ?_)
        · exact a_sub [0, 1, 2, 4] rfl (hk328 () hf)
        · refine a_iload_n (pc := 318) C dX8_takes_318 1 rfl ?_
          refine a_i2l (pc := 319) C dX8_takes_319 ?_
          refine a_callS_Ir (pc := 320) (d' := 1) C dX8_takes_320 ml_X8_162 mc_X8_bits ms_X8_bits [.long x1.toInt64] rfl (Nat.le_of_ble_eq_true rfl) (Nat.le_of_ble_eq_true rfl) rfl (Nat.le_of_ble_eq_true rfl) (fun r h => c_X8_bits N x1.toInt64  _  r h) hf (fun v5 hf => ?_)
          refine a_iconst (pc := 323) (v := 1) C dX8_takes_323 (by decide) ?_
          refine a_icmp_eq (pc := 324) 328 C dX8_takes_324 (by decide) hf (fun hf => ?_) (fun hf => ?_)
          · exact a_sub [0, 1, 2, 4] rfl (hk328 () hf)
          · exact a_vret (pc := 327) C dX8_takes_327 (Option.some.inj hf)
    · refine a_if_eq (pc := 168) 313 C dX8_takes_168 (by decide) hf (fun hf => ?_) (fun hf => ?_)
      · exact a_sub [0, 1, 2, 3, 6] rfl (hk313 () hf)
      · refine a_iload (pc := 171) C dX8_takes_171 5 rfl ?_
        refine a_if_eq (pc := 173) 313 C dX8_takes_173 (by decide) hf (fun hf => ?_) (fun hf => ?_)
        · exact a_sub [0, 1, 2, 3, 6] rfl (hk313 () hf)
        · refine a_iconst (pc := 176) (v := 0) C dX8_takes_176 (by decide) ?_
          refine a_istore (pc := 177) [(9, .int (0 : Int32)), (0, .ref (ad 0)), (1, .int x1), (3, .int a13.2.1), (4, .int a166.1), (6, .int a166.2.1), (7, .int a166.2.2.1), (8, .int a166.2.2.2)] C dX8_takes_177 (by decide) rfl ?_
          refine a_sub [1, 2, 3, 4, 5, 6, 7, 0] rfl ?_
          refine a_lp 179 (fun a179 : Int32 => [(0, .ref (ad 0)), (1, .int x1), (3, .int a13.2.1), (4, .int a166.1), (6, .int a166.2.1), (7, .int a166.2.2.1), (8, .int a166.2.2.2), (9, .int a179)]) (fun a179 : Int32 => []) (fun a179 : Int32 => M) (fun k179 a179 hk179 hf => ?_) N (0 : Int32) hf
          refine a_iload (pc := 179) C dX8_takes_179 7 rfl ?_
          refine a_aload_n (pc := 181) C dX8_takes_181 0 rfl ?_
          refine a_getI (pc := 182) C dX8_takes_182 fl_X8_102 tm_0 rfl ?_
          refine a_jn 228 (fun a228 : Unit => [(0, .ref (ad 0)), (1, .int x1), (3, .int a13.2.1), (4, .int a166.1), (6, .int a166.2.1), (7, .int a166.2.2.1), (8, .int a166.2.2.2), (9, .int a179)]) (fun a228 : Unit => []) (fun a228 : Unit => M) hf (fun a228 hf => ?_) (fun k228 hk228 hf => ?_)
          · refine a_iload (pc := 228) C dX8_takes_228 7 rfl ?_
            refine a_aload_n (pc := 230) C dX8_takes_230 0 rfl ?_
            refine a_getI (pc := 231) C dX8_takes_231 fl_X8_102 tm_0 rfl ?_
            refine a_jn 310 (fun a310 : Int32 × Int32 × Int32 × Int32 => [(0, .ref (ad 0)), (1, .int x1), (3, .int a13.2.1), (4, .int a310.1), (6, .int a310.2.1), (7, .int a310.2.2.1), (8, .int a310.2.2.2)]) (fun a310 : Int32 × Int32 × Int32 × Int32 => []) (fun a310 : Int32 × Int32 × Int32 × Int32 => M) hf (fun a310 hf => ?_) (fun k310 hk310 hf => ?_)
            · refine a_goto (pc := 310) 166 C dX8_takes_310 (by decide) ?_
              exact a_sub [0, 1, 2, 3, 4, 5, 6] rfl (hk166 (a310.1, a310.2.1, a310.2.2.1, a310.2.2.2) hf)
            · refine a_icmp_ne (pc := 234) 243 C dX8_takes_234 (by decide) hf (fun hf => ?_) (fun hf => ?_)
              · refine a_iload (pc := 243) C dX8_takes_243 6 rfl ?_
                refine a_aload_n (pc := 245) C dX8_takes_245 0 rfl ?_
                refine a_getR (pc := 246) C dX8_takes_246 fl_X8_23 tm_0 rfl ?_
                refine a_iload (pc := 249) C dX8_takes_249 7 rfl ?_
                refine a_iald (pc := 251) C dX8_takes_251 tm_4 hf (fun hf => ?_)
                refine a_iload (pc := 252) C dX8_takes_252 4 rfl ?_
                refine a_jn 265 (fun a265 : Int32 => [(0, .ref (ad 0)), (1, .int x1), (3, .int a13.2.1), (4, .int a166.1), (6, .int a166.2.1), (7, .int a166.2.2.1), (9, .int a179)]) (fun a265 : Int32 => [.int a265, .int a166.2.2.2]) (fun a265 : Int32 => M) hf (fun a265 hf => ?_) (fun k265 hk265 hf => ?_)
                · refine a_ior (pc := 265) C dX8_takes_265 ?_
                  refine a_nmi hf (fun v7 hf => ?_)
                  refine a_istore (pc := 266) [(8, .int v7), (0, .ref (ad 0)), (1, .int x1), (3, .int a13.2.1), (4, .int a166.1), (6, .int a166.2.1), (7, .int a166.2.2.1), (9, .int a179)] C dX8_takes_266 (by decide) rfl ?_
                  refine a_iload (pc := 268) C dX8_takes_268 6 rfl ?_
                  refine a_iconst (pc := 270) (v := 1) C dX8_takes_270 (by decide) ?_
                  refine a_iload (pc := 271) C dX8_takes_271 7 rfl ?_
                  refine a_ishl (pc := 273) C dX8_takes_273 ?_
                  refine a_iconst (pc := 274) (v := (-1)) C dX8_takes_274 (by decide) ?_
                  refine a_ixor (pc := 275) C dX8_takes_275 ?_
                  refine a_iand (pc := 276) C dX8_takes_276 ?_
                  refine a_nmi hf (fun v8 hf => ?_)
                  refine a_istore (pc := 277) [(7, .int v8), (8, .int v7), (0, .ref (ad 0)), (1, .int x1), (3, .int a13.2.1), (4, .int a166.1), (6, .int a166.2.1), (9, .int a179)] C dX8_takes_277 (by decide) rfl ?_
                  refine a_aload_n (pc := 279) C dX8_takes_279 2 rfl ?_
                  refine a_getR (pc := 280) C dX8_takes_280 fl_X8_20 tm_0 rfl ?_
                  refine a_iload (pc := 283) C dX8_takes_283 7 rfl ?_
                  refine a_iald (pc := 285) C dX8_takes_285 tm_3 hf (fun hf => ?_)
                  refine a_iload (pc := 286) C dX8_takes_286 6 rfl ?_
                  refine a_jn 308 (fun a308 : Int32 => [(0, .ref (ad 0)), (1, .int x1), (3, .int a13.2.1), (4, .int a166.1), (7, .int v8), (8, .int v7)]) (fun a308 : Int32 => [.int a308]) (fun a308 : Int32 => M) hf (fun a308 hf => ?_) (fun k308 hk308 hf => ?_)
                  · refine a_istore (pc := 308) [(6, .int a308), (0, .ref (ad 0)), (1, .int x1), (3, .int a13.2.1), (4, .int a166.1), (7, .int v8), (8, .int v7)] C dX8_takes_308 (by decide) rfl ?_
                    exact a_sub [1, 2, 3, 4, 0, 5, 6] rfl (hk310 (a166.1, a308, v8, v7) hf)
                  · refine a_icmp_ne (pc := 288) 301 C dX8_takes_288 (by decide) hf (fun hf => ?_) (fun hf => ?_)
                    · refine a_aload_n (pc := 301) C dX8_takes_301 2 rfl ?_
                      refine a_getR (pc := 302) C dX8_takes_302 fl_X8_20 tm_0 rfl ?_
                      refine a_iload (pc := 305) C dX8_takes_305 7 rfl ?_
                      refine a_iald (pc := 307) C dX8_takes_307 tm_3 hf (fun hf => ?_)
                      exact a_sub [2, 3, 4, 5, 0, 1] rfl (hk308 (M.1 3 a179.toNatClampNeg) hf)
                    · refine a_aload_n (pc := 291) C dX8_takes_291 2 rfl ?_
                      refine a_getR (pc := 292) C dX8_takes_292 fl_X8_23 tm_0 rfl ?_
                      refine a_iload (pc := 295) C dX8_takes_295 7 rfl ?_
                      refine a_iald (pc := 297) C dX8_takes_297 tm_4 hf (fun hf => ?_)
                      refine a_goto (pc := 298) 308 C dX8_takes_298 (by decide) ?_
                      exact a_sub [2, 3, 4, 5, 0, 1] rfl (hk308 (M.1 4 a179.toNatClampNeg) hf)
                · refine a_icmp_ne (pc := 254) 264 C dX8_takes_254 (by decide) hf (fun hf => ?_) (fun hf => ?_)
                  · refine a_iconst (pc := 264) (v := 0) C dX8_takes_264 (by decide) ?_
                    exact a_sub [0, 1, 2, 3, 4, 5, 7] rfl (hk265 (0 : Int32) hf)
                  · refine a_iconst (pc := 257) (v := 1) C dX8_takes_257 (by decide) ?_
                    refine a_iload (pc := 258) C dX8_takes_258 7 rfl ?_
                    refine a_ishl (pc := 260) C dX8_takes_260 ?_
                    refine a_goto (pc := 261) 265 C dX8_takes_261 (by decide) ?_
                    exact a_sub [0, 1, 2, 3, 4, 5, 7] rfl (hk265 ((1 : Int32) <<< (a179 &&& 31)) hf)
              · refine a_iconst (pc := 237) (v := 0) C dX8_takes_237 (by decide) ?_
                refine a_istore (pc := 238) [(4, .int (0 : Int32)), (0, .ref (ad 0)), (1, .int x1), (3, .int a13.2.1), (6, .int a166.2.1), (7, .int a166.2.2.1), (8, .int a166.2.2.2), (9, .int a179)] C dX8_takes_238 (by decide) rfl ?_
                refine a_goto (pc := 240) 310 C dX8_takes_240 (by decide) ?_
                exact a_sub [1, 2, 3, 0, 4, 5, 6] rfl (hk310 ((0 : Int32), a166.2.1, a166.2.2.1, a166.2.2.2) hf)
          · refine a_icmp_ge (pc := 185) 228 C dX8_takes_185 (by decide) hf (fun hf => ?_) (fun hf => ?_)
            · exact a_sub [0, 1, 2, 3, 4, 5, 6, 7] rfl (hk228 () hf)
            · refine a_iload (pc := 188) C dX8_takes_188 5 rfl ?_
              refine a_iload (pc := 190) C dX8_takes_190 7 rfl ?_
              refine a_callS_Ir (pc := 192) (d' := 1) C dX8_takes_192 ml_X8_158 mc_X8_has ms_X8_has [.int a166.2.2.1, .int a179] rfl (Nat.le_of_ble_eq_true rfl) (Nat.le_of_ble_eq_true rfl) rfl (Nat.le_of_ble_eq_true rfl) (fun r h => c_X8_has N a166.2.2.1 a179  _  r h) hf (fun v9 hf => ?_)
              refine a_jn 222 (fun a222 : Unit => [(0, .ref (ad 0)), (1, .int x1), (3, .int a13.2.1), (4, .int a166.1), (6, .int a166.2.1), (7, .int a166.2.2.1), (8, .int a166.2.2.2), (9, .int a179)]) (fun a222 : Unit => []) (fun a222 : Unit => M) hf (fun a222 hf => ?_) (fun k222 hk222 hf => ?_)
              · refine a_iinc (pc := 222) (v := 1) (fun v11 => [(9, .int v11), (0, .ref (ad 0)), (1, .int x1), (3, .int a13.2.1), (4, .int a166.1), (6, .int a166.2.1), (7, .int a166.2.2.1), (8, .int a166.2.2.2)]) C dX8_takes_222 7 rfl (by decide) (by decide) (fun _ => rfl) hf (fun v11 hf => ?_)
                refine a_goto (pc := 225) 179 C dX8_takes_225 (by decide) ?_
                exact a_sub [1, 2, 3, 4, 5, 6, 7, 0] rfl (hk179 v11 hf)
              · refine a_if_eq (pc := 195) 222 C dX8_takes_195 (by decide) hf (fun hf => ?_) (fun hf => ?_)
                · exact a_sub [0, 1, 2, 3, 4, 5, 6, 7] rfl (hk222 () hf)
                · refine a_aload_n (pc := 198) C dX8_takes_198 0 rfl ?_
                  refine a_getR (pc := 199) C dX8_takes_199 fl_X8_20 tm_0 rfl ?_
                  refine a_iload (pc := 202) C dX8_takes_202 7 rfl ?_
                  refine a_iald (pc := 204) C dX8_takes_204 tm_3 hf (fun hf => ?_)
                  refine a_iload (pc := 205) C dX8_takes_205 4 rfl ?_
                  refine a_icmp_eq (pc := 207) 228 C dX8_takes_207 (by decide) hf (fun hf => ?_) (fun hf => ?_)
                  · exact a_sub [0, 1, 2, 3, 4, 5, 6, 7] rfl (hk228 () hf)
                  · refine a_aload_n (pc := 210) C dX8_takes_210 0 rfl ?_
                    refine a_getR (pc := 211) C dX8_takes_211 fl_X8_23 tm_0 rfl ?_
                    refine a_iload (pc := 214) C dX8_takes_214 7 rfl ?_
                    refine a_iald (pc := 216) C dX8_takes_216 tm_4 hf (fun hf => ?_)
                    refine a_iload (pc := 217) C dX8_takes_217 4 rfl ?_
                    refine a_icmp_eq (pc := 219) 228 C dX8_takes_219 (by decide) hf (fun hf => ?_) (fun hf => ?_)
                    · exact a_sub [0, 1, 2, 3, 4, 5, 6, 7] rfl (hk228 () hf)
                    · exact a_sub [0, 1, 2, 3, 4, 5, 6, 7] rfl (hk222 () hf)
  · refine a_iconst (pc := 22) (v := 0) C dX8_takes_22 (by decide) ?_
    refine a_istore (pc := 23) [(7, .int (0 : Int32)), (0, .ref (ad 0)), (1, .int x1), (2, .int a13.1), (3, .int a13.2.1), (4, .int a13.2.2.1), (5, .int a13.2.2.2.1), (6, .int a13.2.2.2.2)] C dX8_takes_23 (by decide) rfl ?_
    refine a_iconst (pc := 25) (v := 0) C dX8_takes_25 (by decide) ?_
    refine a_istore (pc := 26) [(8, .int (0 : Int32)), (7, .int (0 : Int32)), (0, .ref (ad 0)), (1, .int x1), (2, .int a13.1), (3, .int a13.2.1), (4, .int a13.2.2.1), (5, .int a13.2.2.2.1), (6, .int a13.2.2.2.2)] C dX8_takes_26 (by decide) rfl ?_
    refine a_sub [2, 3, 4, 5, 6, 7, 8, 1, 0] rfl ?_
    refine a_lp 28 (fun a28 : Int32 × Int32 => [(0, .ref (ad 0)), (1, .int x1), (2, .int a13.1), (3, .int a13.2.1), (4, .int a13.2.2.1), (5, .int a13.2.2.2.1), (6, .int a13.2.2.2.2), (7, .int a28.1), (8, .int a28.2)]) (fun a28 : Int32 × Int32 => []) (fun a28 : Int32 × Int32 => M) (fun k28 a28 hk28 hf => ?_) N ((0 : Int32), (0 : Int32)) hf
    refine a_iload (pc := 28) C dX8_takes_28 8 rfl ?_
    refine a_aload_n (pc := 30) C dX8_takes_30 0 rfl ?_
    refine a_getI (pc := 31) C dX8_takes_31 fl_X8_102 tm_0 rfl ?_
    refine a_icmp_ge (pc := 34) 86 C dX8_takes_34 (by decide) hf (fun hf => ?_) (fun hf => ?_)
    · refine a_iload (pc := 86) C dX8_takes_86 4 rfl ?_
      refine a_jn 107 (fun a107 : Int32 => [(0, .ref (ad 0)), (1, .int x1), (2, .int a13.1), (3, .int a13.2.1), (5, .int a13.2.2.2.1), (6, .int a13.2.2.2.2), (7, .int a28.1)]) (fun a107 : Int32 => [.int a107]) (fun a107 : Int32 => M) hf (fun a107 hf => ?_) (fun k107 hk107 hf => ?_)
      · refine a_istore (pc := 107) [(4, .int a107), (0, .ref (ad 0)), (1, .int x1), (2, .int a13.1), (3, .int a13.2.1), (5, .int a13.2.2.2.1), (6, .int a13.2.2.2.2), (7, .int a28.1)] C dX8_takes_107 (by decide) rfl ?_
        refine a_iload_n (pc := 109) C dX8_takes_109 4 rfl ?_
        refine a_iload (pc := 110) C dX8_takes_110 7 rfl ?_
        refine a_jn 123 (fun a123 : Int32 => [(0, .ref (ad 0)), (1, .int x1), (2, .int a13.1), (4, .int a107), (5, .int a13.2.2.2.1), (6, .int a13.2.2.2.2), (7, .int a28.1)]) (fun a123 : Int32 => [.int a123, .int a13.2.1]) (fun a123 : Int32 => M) hf (fun a123 hf => ?_) (fun k123 hk123 hf => ?_)
        · refine a_ior (pc := 123) C dX8_takes_123 ?_
          refine a_nmi hf (fun v12 hf => ?_)
          refine a_istore_n (pc := 124) [(3, .int v12), (0, .ref (ad 0)), (1, .int x1), (2, .int a13.1), (4, .int a107), (5, .int a13.2.2.2.1), (6, .int a13.2.2.2.2), (7, .int a28.1)] C dX8_takes_124 (by decide) rfl ?_
          refine a_iload (pc := 125) C dX8_takes_125 7 rfl ?_
          refine a_jn 143 (fun a143 : Int32 => [(0, .ref (ad 0)), (1, .int x1), (2, .int a13.1), (3, .int v12), (4, .int a107), (6, .int a13.2.2.2.2), (7, .int a28.1)]) (fun a143 : Int32 => [.int a143]) (fun a143 : Int32 => M) hf (fun a143 hf => ?_) (fun k143 hk143 hf => ?_)
          · refine a_istore (pc := 143) [(5, .int a143), (0, .ref (ad 0)), (1, .int x1), (2, .int a13.1), (3, .int v12), (4, .int a107), (6, .int a13.2.2.2.2), (7, .int a28.1)] C dX8_takes_143 (by decide) rfl ?_
            refine a_iload_n (pc := 145) C dX8_takes_145 3 rfl ?_
            refine a_iload (pc := 146) C dX8_takes_146 7 rfl ?_
            refine a_iadd (pc := 148) C dX8_takes_148 ?_
            refine a_nmi hf (fun v13 hf => ?_)
            refine a_istore_n (pc := 149) [(2, .int v13), (5, .int a143), (0, .ref (ad 0)), (1, .int x1), (3, .int v12), (4, .int a107), (6, .int a13.2.2.2.2), (7, .int a28.1)] C dX8_takes_149 (by decide) rfl ?_
            refine a_iinc (pc := 150) (v := 1) (fun v14 => [(6, .int v14), (2, .int v13), (5, .int a143), (0, .ref (ad 0)), (1, .int x1), (3, .int v12), (4, .int a107), (7, .int a28.1)]) C dX8_takes_150 6 rfl (by decide) (by decide) (fun _ => rfl) hf (fun v14 hf => ?_)
            refine a_goto (pc := 153) 13 C dX8_takes_153 (by decide) ?_
            exact a_sub [3, 4, 1, 5, 6, 2, 0] rfl (hk13 (v13, v12, a107, a143, v14) hf)
          · refine a_jn 141 (fun a141 : Unit => [(0, .ref (ad 0)), (1, .int x1), (2, .int a13.1), (3, .int v12), (4, .int a107), (5, .int a13.2.2.2.1), (6, .int a13.2.2.2.2), (7, .int a28.1)]) (fun a141 : Unit => []) (fun a141 : Unit => M) hf (fun a141 hf => ?_) (fun k141 hk141 hf => ?_)
            · refine a_iload (pc := 141) C dX8_takes_141 5 rfl ?_
              exact a_sub [0, 1, 2, 3, 4, 6, 7] rfl (hk143 a13.2.2.2.1 hf)
            · refine a_if_le (pc := 127) 141 C dX8_takes_127 (by decide) hf (fun hf => ?_) (fun hf => ?_)
              · exact a_sub [1, 2, 3, 0, 4, 5, 6, 7] rfl (hk141 () hf)
              · refine a_iload (pc := 130) C dX8_takes_130 5 rfl ?_
                refine a_iconst (pc := 132) (v := (-1)) C dX8_takes_132 (by decide) ?_
                refine a_icmp_ne (pc := 133) 141 C dX8_takes_133 (by decide) hf (fun hf => ?_) (fun hf => ?_)
                · exact a_sub [1, 2, 3, 0, 4, 5, 6, 7] rfl (hk141 () hf)
                · refine a_iload (pc := 136) C dX8_takes_136 6 rfl ?_
                  refine a_goto (pc := 138) 143 C dX8_takes_138 (by decide) ?_
                  exact a_sub [1, 2, 3, 0, 4, 6, 7] rfl (hk143 a13.2.2.2.2 hf)
        · refine a_if_le (pc := 112) 122 C dX8_takes_112 (by decide) hf (fun hf => ?_) (fun hf => ?_)
          · refine a_iconst (pc := 122) (v := 0) C dX8_takes_122 (by decide) ?_
            exact a_sub [1, 2, 3, 0, 5, 6, 7] rfl (hk123 (0 : Int32) hf)
          · refine a_iconst (pc := 115) (v := 1) C dX8_takes_115 (by decide) ?_
            refine a_iload (pc := 116) C dX8_takes_116 6 rfl ?_
            refine a_ishl (pc := 118) C dX8_takes_118 ?_
            refine a_goto (pc := 119) 123 C dX8_takes_119 (by decide) ?_
            exact a_sub [1, 2, 3, 0, 5, 6, 7] rfl (hk123 ((1 : Int32) <<< (a13.2.2.2.2 &&& 31)) hf)
      · refine a_jn 106 (fun a106 : Unit => [(0, .ref (ad 0)), (1, .int x1), (2, .int a13.1), (3, .int a13.2.1), (5, .int a13.2.2.2.1), (6, .int a13.2.2.2.2), (7, .int a28.1)]) (fun a106 : Unit => []) (fun a106 : Unit => M) hf (fun a106 hf => ?_) (fun k106 hk106 hf => ?_)
        · refine a_iconst (pc := 106) (v := 0) C dX8_takes_106 (by decide) ?_
          exact a_sub [0, 1, 2, 3, 4, 5, 6] rfl (hk107 (0 : Int32) hf)
        · refine a_if_eq (pc := 88) 106 C dX8_takes_88 (by decide) hf (fun hf => ?_) (fun hf => ?_)
          · exact a_sub [0, 1, 2, 3, 5, 6, 7] rfl (hk106 () hf)
          · refine a_iload (pc := 91) C dX8_takes_91 7 rfl ?_
            refine a_jn 102 (fun a102 : Unit => [(0, .ref (ad 0)), (1, .int x1), (2, .int a13.1), (3, .int a13.2.1), (5, .int a13.2.2.2.1), (6, .int a13.2.2.2.2), (7, .int a28.1)]) (fun a102 : Unit => []) (fun a102 : Unit => M) hf (fun a102 hf => ?_) (fun k102 hk102 hf => ?_)
            · refine a_iconst (pc := 102) (v := 1) C dX8_takes_102 (by decide) ?_
              refine a_goto (pc := 103) 107 C dX8_takes_103 (by decide) ?_
              exact a_sub [0, 1, 2, 3, 4, 5, 6] rfl (hk107 (1 : Int32) hf)
            · refine a_if_eq (pc := 93) 102 C dX8_takes_93 (by decide) hf (fun hf => ?_) (fun hf => ?_)
              · exact a_sub [0, 1, 2, 3, 5, 6, 7] rfl (hk102 () hf)
              · refine a_iload (pc := 96) C dX8_takes_96 7 rfl ?_
                refine a_iconst (pc := 98) (v := 2) C dX8_takes_98 (by decide) ?_
                refine a_icmp_ne (pc := 99) 106 C dX8_takes_99 (by decide) hf (fun hf => ?_) (fun hf => ?_)
                · exact a_sub [0, 1, 2, 3, 5, 6, 7] rfl (hk106 () hf)
                · exact a_sub [0, 1, 2, 3, 5, 6, 7] rfl (hk102 () hf)
    · refine a_iload (pc := 37) C dX8_takes_37 7 rfl ?_
      refine a_iload_n (pc := 39) C dX8_takes_39 1 rfl ?_
      refine a_iload (pc := 40) C dX8_takes_40 8 rfl ?_
      refine a_callS_Ir (pc := 42) (d' := 1) C dX8_takes_42 ml_X8_158 mc_X8_has ms_X8_has [.int x1, .int a28.2] rfl (Nat.le_of_ble_eq_true rfl) (Nat.le_of_ble_eq_true rfl) rfl (Nat.le_of_ble_eq_true rfl) (fun r h => c_X8_has N x1 a28.2  _  r h) hf (fun v15 hf => ?_)
      refine a_jn 77 (fun a77 : Int32 => [(0, .ref (ad 0)), (1, .int x1), (2, .int a13.1), (3, .int a13.2.1), (4, .int a13.2.2.1), (5, .int a13.2.2.2.1), (6, .int a13.2.2.2.2), (8, .int a28.2)]) (fun a77 : Int32 => [.int a77, .int a28.1]) (fun a77 : Int32 => M) hf (fun a77 hf => ?_) (fun k77 hk77 hf => ?_)
      · refine a_iadd (pc := 77) C dX8_takes_77 ?_
        refine a_nmi hf (fun v17 hf => ?_)
        refine a_istore (pc := 78) [(7, .int v17), (0, .ref (ad 0)), (1, .int x1), (2, .int a13.1), (3, .int a13.2.1), (4, .int a13.2.2.1), (5, .int a13.2.2.2.1), (6, .int a13.2.2.2.2), (8, .int a28.2)] C dX8_takes_78 (by decide) rfl ?_
        refine a_iinc (pc := 80) (v := 1) (fun v18 => [(8, .int v18), (7, .int v17), (0, .ref (ad 0)), (1, .int x1), (2, .int a13.1), (3, .int a13.2.1), (4, .int a13.2.2.1), (5, .int a13.2.2.2.1), (6, .int a13.2.2.2.2)]) C dX8_takes_80 8 rfl (by decide) (by decide) (fun _ => rfl) hf (fun v18 hf => ?_)
        refine a_goto (pc := 83) 28 C dX8_takes_83 (by decide) ?_
        exact a_sub [2, 3, 4, 5, 6, 7, 8, 1, 0] rfl (hk28 (v17, v18) hf)
      · refine a_jn 76 (fun a76 : Unit => [(0, .ref (ad 0)), (1, .int x1), (2, .int a13.1), (3, .int a13.2.1), (4, .int a13.2.2.1), (5, .int a13.2.2.2.1), (6, .int a13.2.2.2.2), (8, .int a28.2)]) (fun a76 : Unit => [.int a28.1]) (fun a76 : Unit => M) hf (fun a76 hf => ?_) (fun k76 hk76 hf => ?_)
        · refine a_iconst (pc := 76) (v := 0) C dX8_takes_76 (by decide) ?_
          exact a_sub [0, 1, 2, 3, 4, 5, 6, 7] rfl (hk77 (0 : Int32) hf)
        · refine a_if_eq (pc := 45) 76 C dX8_takes_45 (by decide) hf (fun hf => ?_) (fun hf => ?_)
          · exact a_sub [0, 1, 2, 3, 4, 5, 6, 8] rfl (hk76 () hf)
          · refine a_aload_n (pc := 48) C dX8_takes_48 0 rfl ?_
            refine a_getR (pc := 49) C dX8_takes_49 fl_X8_20 tm_0 rfl ?_
            refine a_iload (pc := 52) C dX8_takes_52 8 rfl ?_
            refine a_iald (pc := 54) C dX8_takes_54 tm_3 hf (fun hf => ?_)
            refine a_iload (pc := 55) C dX8_takes_55 6 rfl ?_
            refine a_jn 72 (fun a72 : Unit => [(0, .ref (ad 0)), (1, .int x1), (2, .int a13.1), (3, .int a13.2.1), (4, .int a13.2.2.1), (5, .int a13.2.2.2.1), (6, .int a13.2.2.2.2), (8, .int a28.2)]) (fun a72 : Unit => [.int a28.1]) (fun a72 : Unit => M) hf (fun a72 hf => ?_) (fun k72 hk72 hf => ?_)
            · refine a_iconst (pc := 72) (v := 1) C dX8_takes_72 (by decide) ?_
              refine a_goto (pc := 73) 77 C dX8_takes_73 (by decide) ?_
              exact a_sub [0, 1, 2, 3, 4, 5, 6, 7] rfl (hk77 (1 : Int32) hf)
            · refine a_icmp_eq (pc := 57) 72 C dX8_takes_57 (by decide) hf (fun hf => ?_) (fun hf => ?_)
              · exact a_sub [0, 1, 2, 3, 4, 5, 6, 8] rfl (hk72 () hf)
              · refine a_aload_n (pc := 60) C dX8_takes_60 0 rfl ?_
                refine a_getR (pc := 61) C dX8_takes_61 fl_X8_23 tm_0 rfl ?_
                refine a_iload (pc := 64) C dX8_takes_64 8 rfl ?_
                refine a_iald (pc := 66) C dX8_takes_66 tm_4 hf (fun hf => ?_)
                refine a_iload (pc := 67) C dX8_takes_67 6 rfl ?_
                refine a_icmp_ne (pc := 69) 76 C dX8_takes_69 (by decide) hf (fun hf => ?_) (fun hf => ?_)
                · exact a_sub [0, 1, 2, 3, 4, 5, 6, 8] rfl (hk76 () hf)
                · exact a_sub [0, 1, 2, 3, 4, 5, 6, 8] rfl (hk72 () hf)
theorem dX8_fewer_0 : decode cX8_fewer 0 = .ok (.aload_n 0, 1) := by decide +kernel
theorem dX8_fewer_1 : decode cX8_fewer 1 = .ok (.getfield 41, 3) := by decide +kernel
theorem dX8_fewer_4 : decode cX8_fewer 4 = .ok (.iload_n 1, 1) := by decide +kernel
theorem dX8_fewer_5 : decode cX8_fewer 5 = .ok (.iaload, 1) := by decide +kernel
theorem dX8_fewer_6 : decode cX8_fewer 6 = .ok (.i2l, 1) := by decide +kernel
theorem dX8_fewer_7 : decode cX8_fewer 7 = .ok (.invokestatic 162, 3) := by decide +kernel
theorem dX8_fewer_10 : decode cX8_fewer 10 = .ok (.istore_n 3, 1) := by decide +kernel
theorem dX8_fewer_11 : decode cX8_fewer 11 = .ok (.iload_n 3, 1) := by decide +kernel
theorem dX8_fewer_12 : decode cX8_fewer 12 = .ok (.iconst 1, 1) := by decide +kernel
theorem dX8_fewer_13 : decode cX8_fewer 13 = .ok (.if_icmp .ne 5, 3) := by decide +kernel
theorem dX8_fewer_16 : decode cX8_fewer 16 = .ok (.iconst 1, 1) := by decide +kernel
theorem dX8_fewer_17 : decode cX8_fewer 17 = .ok (.ireturn, 1) := by decide +kernel
theorem dX8_fewer_18 : decode cX8_fewer 18 = .ok (.aload_n 0, 1) := by decide +kernel
theorem dX8_fewer_19 : decode cX8_fewer 19 = .ok (.getfield 41, 3) := by decide +kernel
theorem dX8_fewer_22 : decode cX8_fewer 22 = .ok (.iload_n 1, 1) := by decide +kernel
theorem dX8_fewer_23 : decode cX8_fewer 23 = .ok (.iaload, 1) := by decide +kernel
theorem dX8_fewer_24 : decode cX8_fewer 24 = .ok (.iload_n 2, 1) := by decide +kernel
theorem dX8_fewer_25 : decode cX8_fewer 25 = .ok (.aload_n 0, 1) := by decide +kernel
theorem dX8_fewer_26 : decode cX8_fewer 26 = .ok (.getfield 44, 3) := by decide +kernel
theorem dX8_fewer_29 : decode cX8_fewer 29 = .ok (.iload_n 1, 1) := by decide +kernel
theorem dX8_fewer_30 : decode cX8_fewer 30 = .ok (.iaload, 1) := by decide +kernel
theorem dX8_fewer_31 : decode cX8_fewer 31 = .ok (.ixor, 1) := by decide +kernel
theorem dX8_fewer_32 : decode cX8_fewer 32 = .ok (.iconst (-1), 1) := by decide +kernel
theorem dX8_fewer_33 : decode cX8_fewer 33 = .ok (.ixor, 1) := by decide +kernel
theorem dX8_fewer_34 : decode cX8_fewer 34 = .ok (.iand, 1) := by decide +kernel
theorem dX8_fewer_35 : decode cX8_fewer 35 = .ok (.i2l, 1) := by decide +kernel
theorem dX8_fewer_36 : decode cX8_fewer 36 = .ok (.invokestatic 162, 3) := by decide +kernel
theorem dX8_fewer_39 : decode cX8_fewer 39 = .ok (.istore 4, 2) := by decide +kernel
theorem dX8_fewer_41 : decode cX8_fewer 41 = .ok (.iload 4, 2) := by decide +kernel
theorem dX8_fewer_43 : decode cX8_fewer 43 = .ok (.iload_n 3, 1) := by decide +kernel
theorem dX8_fewer_44 : decode cX8_fewer 44 = .ok (.iload 4, 2) := by decide +kernel
theorem dX8_fewer_46 : decode cX8_fewer 46 = .ok (.isub, 1) := by decide +kernel
theorem dX8_fewer_47 : decode cX8_fewer 47 = .ok (.if_icmp .ge 8, 3) := by decide +kernel
theorem dX8_fewer_50 : decode cX8_fewer 50 = .ok (.iload 4, 2) := by decide +kernel
theorem dX8_fewer_52 : decode cX8_fewer 52 = .ok (.goto 7, 3) := by decide +kernel
theorem dX8_fewer_55 : decode cX8_fewer 55 = .ok (.iload_n 3, 1) := by decide +kernel
theorem dX8_fewer_56 : decode cX8_fewer 56 = .ok (.iload 4, 2) := by decide +kernel
theorem dX8_fewer_58 : decode cX8_fewer 58 = .ok (.isub, 1) := by decide +kernel
theorem dX8_fewer_59 : decode cX8_fewer 59 = .ok (.ireturn, 1) := by decide +kernel
def f_X8_fewer (N : Nat) (x1 : Int32) (x2 : Int32) (M : Mem) : Option (Int32) := ck (inb x1 200) (bd (f_X8_bits N ((M.1 8 x1.toNatClampNeg).toInt64) M) (fun v1 => if v1 = (1 : Int32) then (some (1 : Int32)) else (ck (inb x1 200) (ck (inb x1 200) (bd (f_X8_bits N (((M.1 8 x1.toNatClampNeg) &&& ((x2 ^^^ (M.1 9 x1.toNatClampNeg)) ^^^ (-1 : Int32))).toInt64) M) (fun v3 => if (v1 - v3) ≤ v3 then (some (v1 - v3)) else (some v3)))))))
set_option maxRecDepth 100000 in
set_option maxHeartbeats 4000000 in
theorem c_X8_fewer {l : Launch} {D : va_G} {ac : Nat → ClassId} {A : Nat → Prop} {ad : Nat → Nat} {rest : va_W} (N : Nat) (x1 : Int32) (x2 : Int32)  (M : Mem) (r0 : Int32) (hf : f_X8_fewer N x1 x2 M = some r0) : CtI l D ac A tabM ad rest yX8_fewer cX8_fewer 5 .int 2 [.ref (ad 0), .int x1, .int x2] M r0 M := by
  refine ct_ofI (own := RX8) (by decide +kernel) rfl (Nat.le_of_ble_eq_true rfl) ?_
  intro p e s m args below meth c C
  unfold f_X8_fewer at hf
  refine a_L (L' := [(0, .ref (ad 0)), (1, .int x1), (2, .int x2)]) rfl ?_
  refine a_aload_n (pc := 0) C dX8_fewer_0 0 rfl ?_
  refine a_getR (pc := 1) C dX8_fewer_1 fl_X8_41 tm_0 rfl ?_
  refine a_iload_n (pc := 4) C dX8_fewer_4 1 rfl ?_
  refine a_iald (pc := 5) C dX8_fewer_5 tm_8 hf (fun hf => ?_)
  refine a_i2l (pc := 6) C dX8_fewer_6 ?_
  refine a_callS_Ir (pc := 7) (d' := 1) C dX8_fewer_7 ml_X8_162 mc_X8_bits ms_X8_bits [.long ((M.1 8 x1.toNatClampNeg).toInt64)] rfl (Nat.le_of_ble_eq_true rfl) (Nat.le_of_ble_eq_true rfl) rfl (Nat.le_of_ble_eq_true rfl) (fun r h => c_X8_bits N ((M.1 8 x1.toNatClampNeg).toInt64)  _  r h) hf (fun v1 hf => ?_)
  refine a_istore_n (pc := 10) [(3, .int v1), (0, .ref (ad 0)), (1, .int x1), (2, .int x2)] C dX8_fewer_10 (by decide) rfl ?_
  refine a_iload_n (pc := 11) C dX8_fewer_11 0 rfl ?_
  refine a_iconst (pc := 12) (v := 1) C dX8_fewer_12 (by decide) ?_
  refine a_icmp_ne (pc := 13) 18 C dX8_fewer_13 (by decide) hf (fun hf => ?_) (fun hf => ?_)
  · refine a_aload_n (pc := 18) C dX8_fewer_18 1 rfl ?_
    refine a_getR (pc := 19) C dX8_fewer_19 fl_X8_41 tm_0 rfl ?_
    refine a_iload_n (pc := 22) C dX8_fewer_22 2 rfl ?_
    refine a_iald (pc := 23) C dX8_fewer_23 tm_8 hf (fun hf => ?_)
    refine a_iload_n (pc := 24) C dX8_fewer_24 3 rfl ?_
    refine a_aload_n (pc := 25) C dX8_fewer_25 1 rfl ?_
    refine a_getR (pc := 26) C dX8_fewer_26 fl_X8_44 tm_0 rfl ?_
    refine a_iload_n (pc := 29) C dX8_fewer_29 2 rfl ?_
    refine a_iald (pc := 30) C dX8_fewer_30 tm_9 hf (fun hf => ?_)
    refine a_ixor (pc := 31) C dX8_fewer_31 ?_
    refine a_iconst (pc := 32) (v := (-1)) C dX8_fewer_32 (by decide) ?_
    refine a_ixor (pc := 33) C dX8_fewer_33 ?_
    refine a_iand (pc := 34) C dX8_fewer_34 ?_
    refine a_i2l (pc := 35) C dX8_fewer_35 ?_
    refine a_callS_Ir (pc := 36) (d' := 1) C dX8_fewer_36 ml_X8_162 mc_X8_bits ms_X8_bits [.long (((M.1 8 x1.toNatClampNeg) &&& ((x2 ^^^ (M.1 9 x1.toNatClampNeg)) ^^^ (-1 : Int32))).toInt64)] rfl (Nat.le_of_ble_eq_true rfl) (Nat.le_of_ble_eq_true rfl) rfl (Nat.le_of_ble_eq_true rfl) (fun r h => c_X8_bits N (((M.1 8 x1.toNatClampNeg) &&& ((x2 ^^^ (M.1 9 x1.toNatClampNeg)) ^^^ (-1 : Int32))).toInt64)  _  r h) hf (fun v3 hf => ?_)
    refine a_istore (pc := 39) [(4, .int v3), (3, .int v1), (0, .ref (ad 0)), (1, .int x1), (2, .int x2)] C dX8_fewer_39 (by decide) rfl ?_
    refine a_iload (pc := 41) C dX8_fewer_41 0 rfl ?_
    refine a_iload_n (pc := 43) C dX8_fewer_43 1 rfl ?_
    refine a_iload (pc := 44) C dX8_fewer_44 0 rfl ?_
    refine a_isub (pc := 46) C dX8_fewer_46 ?_
    refine a_icmp_ge (pc := 47) 55 C dX8_fewer_47 (by decide) hf (fun hf => ?_) (fun hf => ?_)
    · refine a_iload_n (pc := 55) C dX8_fewer_55 1 rfl ?_
      refine a_iload (pc := 56) C dX8_fewer_56 0 rfl ?_
      refine a_isub (pc := 58) C dX8_fewer_58 ?_
      exact a_iret (pc := 59) C dX8_fewer_59 (Option.some.inj hf) rfl
    · refine a_iload (pc := 50) C dX8_fewer_50 0 rfl ?_
      refine a_goto (pc := 52) 59 C dX8_fewer_52 (by decide) ?_
      exact a_iret (pc := 59) C dX8_fewer_59 (Option.some.inj hf) rfl
  · refine a_iconst (pc := 16) (v := 1) C dX8_fewer_16 (by decide) ?_
    exact a_iret (pc := 17) C dX8_fewer_17 (Option.some.inj hf) rfl
theorem dX8_next_0 : decode cX8_next 0 = .ok (.iload_n 1, 1) := by decide +kernel
theorem dX8_next_1 : decode cX8_next 1 = .ok (.i2l, 1) := by decide +kernel
theorem dX8_next_2 : decode cX8_next 2 = .ok (.lconst 0, 1) := by decide +kernel
theorem dX8_next_3 : decode cX8_next 3 = .ok (.ldc2_w 265, 3) := by decide +kernel
theorem dX8_next_6 : decode cX8_next 6 = .ok (.invokestatic 98, 3) := by decide +kernel
theorem dX8_next_9 : decode cX8_next 9 = .ok (.ifCond .eq 49, 3) := by decide +kernel
theorem dX8_next_12 : decode cX8_next 12 = .ok (.iload_n 2, 1) := by decide +kernel
theorem dX8_next_13 : decode cX8_next 13 = .ok (.i2l, 1) := by decide +kernel
theorem dX8_next_14 : decode cX8_next 14 = .ok (.lconst 1, 1) := by decide +kernel
theorem dX8_next_15 : decode cX8_next 15 = .ok (.ldc2_w 265, 3) := by decide +kernel
theorem dX8_next_18 : decode cX8_next 18 = .ok (.invokestatic 98, 3) := by decide +kernel
theorem dX8_next_21 : decode cX8_next 21 = .ok (.ifCond .eq 37, 3) := by decide +kernel
theorem dX8_next_24 : decode cX8_next 24 = .ok (.iload_n 3, 1) := by decide +kernel
theorem dX8_next_25 : decode cX8_next 25 = .ok (.i2l, 1) := by decide +kernel
theorem dX8_next_26 : decode cX8_next 26 = .ok (.lconst 1, 1) := by decide +kernel
theorem dX8_next_27 : decode cX8_next 27 = .ok (.ldc2_w 265, 3) := by decide +kernel
theorem dX8_next_30 : decode cX8_next 30 = .ok (.invokestatic 98, 3) := by decide +kernel
theorem dX8_next_33 : decode cX8_next 33 = .ok (.ifCond .eq 25, 3) := by decide +kernel
theorem dX8_next_36 : decode cX8_next 36 = .ok (.iload 4, 2) := by decide +kernel
theorem dX8_next_38 : decode cX8_next 38 = .ok (.i2l, 1) := by decide +kernel
theorem dX8_next_39 : decode cX8_next 39 = .ok (.lconst 0, 1) := by decide +kernel
theorem dX8_next_40 : decode cX8_next 40 = .ok (.lconst 1, 1) := by decide +kernel
theorem dX8_next_41 : decode cX8_next 41 = .ok (.invokestatic 98, 3) := by decide +kernel
theorem dX8_next_44 : decode cX8_next 44 = .ok (.ifCond .eq 14, 3) := by decide +kernel
theorem dX8_next_47 : decode cX8_next 47 = .ok (.iload 5, 2) := by decide +kernel
theorem dX8_next_49 : decode cX8_next 49 = .ok (.i2l, 1) := by decide +kernel
theorem dX8_next_50 : decode cX8_next 50 = .ok (.lconst 0, 1) := by decide +kernel
theorem dX8_next_51 : decode cX8_next 51 = .ok (.lconst 1, 1) := by decide +kernel
theorem dX8_next_52 : decode cX8_next 52 = .ok (.invokestatic 98, 3) := by decide +kernel
theorem dX8_next_55 : decode cX8_next 55 = .ok (.ifCond .ne 6, 3) := by decide +kernel
theorem dX8_next_58 : decode cX8_next 58 = .ok (.bipush (-2), 2) := by decide +kernel
theorem dX8_next_60 : decode cX8_next 60 = .ok (.ireturn, 1) := by decide +kernel
theorem dX8_next_61 : decode cX8_next 61 = .ok (.iconst (-1), 1) := by decide +kernel
theorem dX8_next_62 : decode cX8_next 62 = .ok (.istore 6, 2) := by decide +kernel
theorem dX8_next_64 : decode cX8_next 64 = .ok (.iconst 1, 1) := by decide +kernel
theorem dX8_next_65 : decode cX8_next 65 = .ok (.istore 7, 2) := by decide +kernel
theorem dX8_next_67 : decode cX8_next 67 = .ok (.iconst 1, 1) := by decide +kernel
theorem dX8_next_68 : decode cX8_next 68 = .ok (.istore 8, 2) := by decide +kernel
theorem dX8_next_70 : decode cX8_next 70 = .ok (.iload 8, 2) := by decide +kernel
theorem dX8_next_72 : decode cX8_next 72 = .ok (.iload_n 3, 1) := by decide +kernel
theorem dX8_next_73 : decode cX8_next 73 = .ok (.if_icmp .gt 110, 3) := by decide +kernel
theorem dX8_next_76 : decode cX8_next 76 = .ok (.iload 4, 2) := by decide +kernel
theorem dX8_next_78 : decode cX8_next 78 = .ok (.iconst 1, 1) := by decide +kernel
theorem dX8_next_79 : decode cX8_next 79 = .ok (.if_icmp .ne 14, 3) := by decide +kernel
theorem dX8_next_82 : decode cX8_next 82 = .ok (.iload_n 1, 1) := by decide +kernel
theorem dX8_next_83 : decode cX8_next 83 = .ok (.iload 8, 2) := by decide +kernel
theorem dX8_next_85 : decode cX8_next 85 = .ok (.imul, 1) := by decide +kernel
theorem dX8_next_86 : decode cX8_next 86 = .ok (.iload_n 2, 1) := by decide +kernel
theorem dX8_next_87 : decode cX8_next 87 = .ok (.idiv, 1) := by decide +kernel
theorem dX8_next_88 : decode cX8_next 88 = .ok (.iconst 1, 1) := by decide +kernel
theorem dX8_next_89 : decode cX8_next 89 = .ok (.iadd, 1) := by decide +kernel
theorem dX8_next_90 : decode cX8_next 90 = .ok (.goto 19, 3) := by decide +kernel
theorem dX8_next_93 : decode cX8_next 93 = .ok (.iload_n 1, 1) := by decide +kernel
theorem dX8_next_94 : decode cX8_next 94 = .ok (.ifCond .ne 7, 3) := by decide +kernel
theorem dX8_next_97 : decode cX8_next 97 = .ok (.iconst (-1), 1) := by decide +kernel
theorem dX8_next_98 : decode cX8_next 98 = .ok (.goto 11, 3) := by decide +kernel
theorem dX8_next_101 : decode cX8_next 101 = .ok (.iload_n 1, 1) := by decide +kernel
theorem dX8_next_102 : decode cX8_next 102 = .ok (.iload 8, 2) := by decide +kernel
theorem dX8_next_104 : decode cX8_next 104 = .ok (.imul, 1) := by decide +kernel
theorem dX8_next_105 : decode cX8_next 105 = .ok (.iconst 1, 1) := by decide +kernel
theorem dX8_next_106 : decode cX8_next 106 = .ok (.isub, 1) := by decide +kernel
theorem dX8_next_107 : decode cX8_next 107 = .ok (.iload_n 2, 1) := by decide +kernel
theorem dX8_next_108 : decode cX8_next 108 = .ok (.idiv, 1) := by decide +kernel
theorem dX8_next_109 : decode cX8_next 109 = .ok (.istore 9, 2) := by decide +kernel
theorem dX8_next_111 : decode cX8_next 111 = .ok (.iload 9, 2) := by decide +kernel
theorem dX8_next_113 : decode cX8_next 113 = .ok (.i2l, 1) := by decide +kernel
theorem dX8_next_114 : decode cX8_next 114 = .ok (.iload 7, 2) := by decide +kernel
theorem dX8_next_116 : decode cX8_next 116 = .ok (.i2l, 1) := by decide +kernel
theorem dX8_next_117 : decode cX8_next 117 = .ok (.lmul, 1) := by decide +kernel
theorem dX8_next_118 : decode cX8_next 118 = .ok (.lstore 10, 2) := by decide +kernel
theorem dX8_next_120 : decode cX8_next 120 = .ok (.iload 6, 2) := by decide +kernel
theorem dX8_next_122 : decode cX8_next 122 = .ok (.i2l, 1) := by decide +kernel
theorem dX8_next_123 : decode cX8_next 123 = .ok (.iload 8, 2) := by decide +kernel
theorem dX8_next_125 : decode cX8_next 125 = .ok (.i2l, 1) := by decide +kernel
theorem dX8_next_126 : decode cX8_next 126 = .ok (.lmul, 1) := by decide +kernel
theorem dX8_next_127 : decode cX8_next 127 = .ok (.lstore 12, 2) := by decide +kernel
theorem dX8_next_129 : decode cX8_next 129 = .ok (.iload 9, 2) := by decide +kernel
theorem dX8_next_131 : decode cX8_next 131 = .ok (.iconst (-1), 1) := by decide +kernel
theorem dX8_next_132 : decode cX8_next 132 = .ok (.if_icmp .eq 45, 3) := by decide +kernel
theorem dX8_next_135 : decode cX8_next 135 = .ok (.iload 6, 2) := by decide +kernel
theorem dX8_next_137 : decode cX8_next 137 = .ok (.iconst (-1), 1) := by decide +kernel
theorem dX8_next_138 : decode cX8_next 138 = .ok (.if_icmp .eq 31, 3) := by decide +kernel
theorem dX8_next_141 : decode cX8_next 141 = .ok (.iload 4, 2) := by decide +kernel
theorem dX8_next_143 : decode cX8_next 143 = .ok (.iconst 1, 1) := by decide +kernel
theorem dX8_next_144 : decode cX8_next 144 = .ok (.if_icmp .ne 14, 3) := by decide +kernel
theorem dX8_next_147 : decode cX8_next 147 = .ok (.lload 10, 2) := by decide +kernel
theorem dX8_next_149 : decode cX8_next 149 = .ok (.lload 12, 2) := by decide +kernel
theorem dX8_next_151 : decode cX8_next 151 = .ok (.lcmp, 1) := by decide +kernel
theorem dX8_next_152 : decode cX8_next 152 = .ok (.ifCond .lt 17, 3) := by decide +kernel
theorem dX8_next_155 : decode cX8_next 155 = .ok (.goto 22, 3) := by decide +kernel
theorem dX8_next_158 : decode cX8_next 158 = .ok (.lload 10, 2) := by decide +kernel
theorem dX8_next_160 : decode cX8_next 160 = .ok (.lload 12, 2) := by decide +kernel
theorem dX8_next_162 : decode cX8_next 162 = .ok (.lcmp, 1) := by decide +kernel
theorem dX8_next_163 : decode cX8_next 163 = .ok (.ifCond .gt 6, 3) := by decide +kernel
theorem dX8_next_166 : decode cX8_next 166 = .ok (.goto 11, 3) := by decide +kernel
theorem dX8_next_169 : decode cX8_next 169 = .ok (.iload 9, 2) := by decide +kernel
theorem dX8_next_171 : decode cX8_next 171 = .ok (.istore 6, 2) := by decide +kernel
theorem dX8_next_173 : decode cX8_next 173 = .ok (.iload 8, 2) := by decide +kernel
theorem dX8_next_175 : decode cX8_next 175 = .ok (.istore 7, 2) := by decide +kernel
theorem dX8_next_177 : decode cX8_next 177 = .ok (.iinc 8 1, 3) := by decide +kernel
theorem dX8_next_180 : decode cX8_next 180 = .ok (.goto (-110), 3) := by decide +kernel
theorem dX8_next_183 : decode cX8_next 183 = .ok (.iload 6, 2) := by decide +kernel
theorem dX8_next_185 : decode cX8_next 185 = .ok (.iconst (-1), 1) := by decide +kernel
theorem dX8_next_186 : decode cX8_next 186 = .ok (.if_icmp .ne 5, 3) := by decide +kernel
theorem dX8_next_189 : decode cX8_next 189 = .ok (.iconst (-1), 1) := by decide +kernel
theorem dX8_next_190 : decode cX8_next 190 = .ok (.ireturn, 1) := by decide +kernel
theorem dX8_next_191 : decode cX8_next 191 = .ok (.iload 6, 2) := by decide +kernel
theorem dX8_next_193 : decode cX8_next 193 = .ok (.iload 7, 2) := by decide +kernel
theorem dX8_next_195 : decode cX8_next 195 = .ok (.invokestatic 224, 3) := by decide +kernel
theorem dX8_next_198 : decode cX8_next 198 = .ok (.istore 8, 2) := by decide +kernel
theorem dX8_next_200 : decode cX8_next 200 = .ok (.iload 5, 2) := by decide +kernel
theorem dX8_next_202 : decode cX8_next 202 = .ok (.ifCond .ne 8, 3) := by decide +kernel
theorem dX8_next_205 : decode cX8_next 205 = .ok (.iload 6, 2) := by decide +kernel
theorem dX8_next_207 : decode cX8_next 207 = .ok (.goto 5, 3) := by decide +kernel
theorem dX8_next_210 : decode cX8_next 210 = .ok (.iload 7, 2) := by decide +kernel
theorem dX8_next_212 : decode cX8_next 212 = .ok (.iload 8, 2) := by decide +kernel
theorem dX8_next_214 : decode cX8_next 214 = .ok (.idiv, 1) := by decide +kernel
theorem dX8_next_215 : decode cX8_next 215 = .ok (.ireturn, 1) := by decide +kernel
def f_X8_next (N : Nat) (x1 : Int32) (x2 : Int32) (x3 : Int32) (x4 : Int32) (x5 : Int32) (M : Mem) : Option (Int32) := bd (f_X8_in N x1.toInt64 (0 : Int64) (9999 : Int64) M) (fun v1 => if v1 = 0 then (some (-2 : Int32)) else (bd (f_X8_in N x2.toInt64 (1 : Int64) (9999 : Int64) M) (fun v3 => if v3 = 0 then (some (-2 : Int32)) else (bd (f_X8_in N x3.toInt64 (1 : Int64) (9999 : Int64) M) (fun v5 => if v5 = 0 then (some (-2 : Int32)) else (bd (f_X8_in N x4.toInt64 (0 : Int64) (1 : Int64) M) (fun v7 => if v7 = 0 then (some (-2 : Int32)) else (bd (f_X8_in N x5.toInt64 (0 : Int64) (1 : Int64) M) (fun v9 => if v9 = 0 then (some (-2 : Int32)) else (lp (fun (k70 : (Int32 × Int32 × Int32) → Option (Int32)) (a70 : Int32 × Int32 × Int32) => if x3 < a70.2.2 then (if a70.1 = (-1 : Int32) then (some (-1 : Int32)) else (bd (f_X8_common N a70.1 a70.2.1 M) (fun v11 => jn (fun (a212 : Int32) => ck (¬ v11 = 0) (some (a212 / v11))) (fun (k212 : Int32 → Option (Int32)) => if x5 = 0 then (k212 a70.1) else (k212 a70.2.1))))) else (jn (fun (a109 : Int32) => nm (a109.toInt64 * a70.2.1.toInt64) (fun v13 => nm (a70.1.toInt64 * a70.2.2.toInt64) (fun v14 => jn (fun (a177 : Int32 × Int32) => nm (a70.2.2 + (1 : Int32)) (fun v15 => k70 (a177.1, a177.2, v15))) (fun (k177 : (Int32 × Int32) → Option (Int32)) => if a109 = (-1 : Int32) then (k177 (a70.1, a70.2.1)) else (jn (fun (a169 : Unit) => k177 (a109, a70.2.2)) (fun (k169 : Unit → Option (Int32)) => if a70.1 = (-1 : Int32) then (k169 ()) else (if x4 = (1 : Int32) then (if (lg_cmp v13 v14) < 0 then (k169 ()) else (k177 (a70.1, a70.2.1))) else (if 0 < (lg_cmp v13 v14) then (k169 ()) else (k177 (a70.1, a70.2.1)))))))))) (fun (k109 : Int32 → Option (Int32)) => if x4 = (1 : Int32) then (ck (¬ x2 = 0) (k109 (((x1 * a70.2.2) / x2) + (1 : Int32)))) else (if x1 = 0 then (k109 (-1 : Int32)) else (ck (¬ x2 = 0) (k109 (((x1 * a70.2.2) - (1 : Int32)) / x2))))))) N ((-1 : Int32), (1 : Int32), (1 : Int32))))))))))))
set_option maxRecDepth 100000 in
set_option maxHeartbeats 4000000 in
theorem c_X8_next {l : Launch} {D : va_G} {ac : Nat → ClassId} {A : Nat → Prop} {ad : Nat → Nat} {rest : va_W} (N : Nat) (x1 : Int32) (x2 : Int32) (x3 : Int32) (x4 : Int32) (x5 : Int32)  (M : Mem) (r0 : Int32) (hf : f_X8_next N x1 x2 x3 x4 x5 M = some r0) : CtI l D ac A tabM ad rest yX8_next cX8_next 14 .int 2 [.ref (ad 0), .int x1, .int x2, .int x3, .int x4, .int x5] M r0 M := by
  refine ct_ofI (own := RX8) (by decide +kernel) rfl (Nat.le_of_ble_eq_true rfl) ?_
  intro p e s m args below meth c C
  unfold f_X8_next at hf
  refine a_L (L' := [(0, .ref (ad 0)), (1, .int x1), (2, .int x2), (3, .int x3), (4, .int x4), (5, .int x5)]) rfl ?_
  refine a_iload_n (pc := 0) C dX8_next_0 1 rfl ?_
  refine a_i2l (pc := 1) C dX8_next_1 ?_
  refine a_lconst (pc := 2) (v := 0) C dX8_next_2 (by decide) ?_
  refine a_ldc2 (pc := 3) C dX8_next_3 cj_X8_265 ?_
  refine a_callS_Ir (pc := 6) (d' := 1) C dX8_next_6 ml_X8_98 mc_X8_in ms_X8_in [.long x1.toInt64, .long (0 : Int64), .long (9999 : Int64)] rfl (Nat.le_of_ble_eq_true rfl) (Nat.le_of_ble_eq_true rfl) rfl (Nat.le_of_ble_eq_true rfl) (fun r h => c_X8_in N x1.toInt64 (0 : Int64) (9999 : Int64)  _  r h) hf (fun v1 hf => ?_)
  refine a_if_eq (pc := 9) 58 C dX8_next_9 (by decide) hf (fun hf => ?_) (fun hf => ?_)
  · refine a_bipush (pc := 58) (v := (-2)) C dX8_next_58 (by decide) ?_
    exact a_iret (pc := 60) C dX8_next_60 (Option.some.inj hf) rfl
  · refine a_iload_n (pc := 12) C dX8_next_12 2 rfl ?_
    refine a_i2l (pc := 13) C dX8_next_13 ?_
    refine a_lconst (pc := 14) (v := 1) C dX8_next_14 (by decide) ?_
    refine a_ldc2 (pc := 15) C dX8_next_15 cj_X8_265 ?_
    refine a_callS_Ir (pc := 18) (d' := 1) C dX8_next_18 ml_X8_98 mc_X8_in ms_X8_in [.long x2.toInt64, .long (1 : Int64), .long (9999 : Int64)] rfl (Nat.le_of_ble_eq_true rfl) (Nat.le_of_ble_eq_true rfl) rfl (Nat.le_of_ble_eq_true rfl) (fun r h => c_X8_in N x2.toInt64 (1 : Int64) (9999 : Int64)  _  r h) hf (fun v3 hf => ?_)
    refine a_if_eq (pc := 21) 58 C dX8_next_21 (by decide) hf (fun hf => ?_) (fun hf => ?_)
    · refine a_bipush (pc := 58) (v := (-2)) C dX8_next_58 (by decide) ?_
      exact a_iret (pc := 60) C dX8_next_60 (Option.some.inj hf) rfl
    · refine a_iload_n (pc := 24) C dX8_next_24 3 rfl ?_
      refine a_i2l (pc := 25) C dX8_next_25 ?_
      refine a_lconst (pc := 26) (v := 1) C dX8_next_26 (by decide) ?_
      refine a_ldc2 (pc := 27) C dX8_next_27 cj_X8_265 ?_
      refine a_callS_Ir (pc := 30) (d' := 1) C dX8_next_30 ml_X8_98 mc_X8_in ms_X8_in [.long x3.toInt64, .long (1 : Int64), .long (9999 : Int64)] rfl (Nat.le_of_ble_eq_true rfl) (Nat.le_of_ble_eq_true rfl) rfl (Nat.le_of_ble_eq_true rfl) (fun r h => c_X8_in N x3.toInt64 (1 : Int64) (9999 : Int64)  _  r h) hf (fun v5 hf => ?_)
      refine a_if_eq (pc := 33) 58 C dX8_next_33 (by decide) hf (fun hf => ?_) (fun hf => ?_)
      · refine a_bipush (pc := 58) (v := (-2)) C dX8_next_58 (by decide) ?_
        exact a_iret (pc := 60) C dX8_next_60 (Option.some.inj hf) rfl
      · refine a_iload (pc := 36) C dX8_next_36 4 rfl ?_
        refine a_i2l (pc := 38) C dX8_next_38 ?_
        refine a_lconst (pc := 39) (v := 0) C dX8_next_39 (by decide) ?_
        refine a_lconst (pc := 40) (v := 1) C dX8_next_40 (by decide) ?_
        refine a_callS_Ir (pc := 41) (d' := 1) C dX8_next_41 ml_X8_98 mc_X8_in ms_X8_in [.long x4.toInt64, .long (0 : Int64), .long (1 : Int64)] rfl (Nat.le_of_ble_eq_true rfl) (Nat.le_of_ble_eq_true rfl) rfl (Nat.le_of_ble_eq_true rfl) (fun r h => c_X8_in N x4.toInt64 (0 : Int64) (1 : Int64)  _  r h) hf (fun v7 hf => ?_)
        refine a_if_eq (pc := 44) 58 C dX8_next_44 (by decide) hf (fun hf => ?_) (fun hf => ?_)
        · refine a_bipush (pc := 58) (v := (-2)) C dX8_next_58 (by decide) ?_
          exact a_iret (pc := 60) C dX8_next_60 (Option.some.inj hf) rfl
        · refine a_iload (pc := 47) C dX8_next_47 5 rfl ?_
          refine a_i2l (pc := 49) C dX8_next_49 ?_
          refine a_lconst (pc := 50) (v := 0) C dX8_next_50 (by decide) ?_
          refine a_lconst (pc := 51) (v := 1) C dX8_next_51 (by decide) ?_
          refine a_callS_Ir (pc := 52) (d' := 1) C dX8_next_52 ml_X8_98 mc_X8_in ms_X8_in [.long x5.toInt64, .long (0 : Int64), .long (1 : Int64)] rfl (Nat.le_of_ble_eq_true rfl) (Nat.le_of_ble_eq_true rfl) rfl (Nat.le_of_ble_eq_true rfl) (fun r h => c_X8_in N x5.toInt64 (0 : Int64) (1 : Int64)  _  r h) hf (fun v9 hf => ?_)
          refine a_if_ne (pc := 55) 61 C dX8_next_55 (by decide) hf (fun hf => ?_) (fun hf => ?_)
          · refine a_iconst (pc := 61) (v := (-1)) C dX8_next_61 (by decide) ?_
            refine a_istore (pc := 62) [(6, .int (-1 : Int32)), (0, .ref (ad 0)), (1, .int x1), (2, .int x2), (3, .int x3), (4, .int x4), (5, .int x5)] C dX8_next_62 (by decide) rfl ?_
            refine a_iconst (pc := 64) (v := 1) C dX8_next_64 (by decide) ?_
            refine a_istore (pc := 65) [(7, .int (1 : Int32)), (6, .int (-1 : Int32)), (0, .ref (ad 0)), (1, .int x1), (2, .int x2), (3, .int x3), (4, .int x4), (5, .int x5)] C dX8_next_65 (by decide) rfl ?_
            refine a_iconst (pc := 67) (v := 1) C dX8_next_67 (by decide) ?_
            refine a_istore (pc := 68) [(8, .int (1 : Int32)), (7, .int (1 : Int32)), (6, .int (-1 : Int32)), (0, .ref (ad 0)), (1, .int x1), (2, .int x2), (3, .int x3), (4, .int x4), (5, .int x5)] C dX8_next_68 (by decide) rfl ?_
            refine a_sub [4, 5, 6, 7, 8, 2, 1, 0] rfl ?_
            refine a_lp 70 (fun a70 : Int32 × Int32 × Int32 => [(1, .int x1), (2, .int x2), (3, .int x3), (4, .int x4), (5, .int x5), (6, .int a70.1), (7, .int a70.2.1), (8, .int a70.2.2)]) (fun a70 : Int32 × Int32 × Int32 => []) (fun a70 : Int32 × Int32 × Int32 => M) (fun k70 a70 hk70 hf => ?_) N ((-1 : Int32), (1 : Int32), (1 : Int32)) hf
            refine a_iload (pc := 70) C dX8_next_70 7 rfl ?_
            refine a_iload_n (pc := 72) C dX8_next_72 2 rfl ?_
            refine a_icmp_gt (pc := 73) 183 C dX8_next_73 (by decide) hf (fun hf => ?_) (fun hf => ?_)
            · refine a_iload (pc := 183) C dX8_next_183 5 rfl ?_
              refine a_iconst (pc := 185) (v := (-1)) C dX8_next_185 (by decide) ?_
              refine a_icmp_ne (pc := 186) 191 C dX8_next_186 (by decide) hf (fun hf => ?_) (fun hf => ?_)
              · refine a_iload (pc := 191) C dX8_next_191 5 rfl ?_
                refine a_iload (pc := 193) C dX8_next_193 6 rfl ?_
                refine a_callS_Ir (pc := 195) (d' := 1) C dX8_next_195 ml_X8_224 mc_X8_common ms_X8_common [.int a70.1, .int a70.2.1] rfl (Nat.le_of_ble_eq_true rfl) (Nat.le_of_ble_eq_true rfl) rfl (Nat.le_of_ble_eq_true rfl) (fun r h => c_X8_common N a70.1 a70.2.1  _  r h) hf (fun v11 hf => ?_)
                refine a_istore (pc := 198) [(8, .int v11), (1, .int x1), (2, .int x2), (3, .int x3), (4, .int x4), (5, .int x5), (6, .int a70.1), (7, .int a70.2.1)] C dX8_next_198 (by decide) rfl ?_
                refine a_iload (pc := 200) C dX8_next_200 5 rfl ?_
                refine a_jn 212 (fun a212 : Int32 => [(8, .int v11)]) (fun a212 : Int32 => [.int a212]) (fun a212 : Int32 => M) hf (fun a212 hf => ?_) (fun k212 hk212 hf => ?_)
                · refine a_iload (pc := 212) C dX8_next_212 0 rfl ?_
                  refine a_idiv (pc := 214) C dX8_next_214 hf (fun hf => ?_)
                  exact a_iret (pc := 215) C dX8_next_215 (Option.some.inj hf) rfl
                · refine a_if_ne (pc := 202) 210 C dX8_next_202 (by decide) hf (fun hf => ?_) (fun hf => ?_)
                  · refine a_iload (pc := 210) C dX8_next_210 7 rfl ?_
                    exact a_sub [0] rfl (hk212 a70.2.1 hf)
                  · refine a_iload (pc := 205) C dX8_next_205 6 rfl ?_
                    refine a_goto (pc := 207) 212 C dX8_next_207 (by decide) ?_
                    exact a_sub [0] rfl (hk212 a70.1 hf)
              · refine a_iconst (pc := 189) (v := (-1)) C dX8_next_189 (by decide) ?_
                exact a_iret (pc := 190) C dX8_next_190 (Option.some.inj hf) rfl
            · refine a_iload (pc := 76) C dX8_next_76 3 rfl ?_
              refine a_iconst (pc := 78) (v := 1) C dX8_next_78 (by decide) ?_
              refine a_jn 109 (fun a109 : Int32 => [(1, .int x1), (2, .int x2), (3, .int x3), (4, .int x4), (5, .int x5), (6, .int a70.1), (7, .int a70.2.1), (8, .int a70.2.2)]) (fun a109 : Int32 => [.int a109]) (fun a109 : Int32 => M) hf (fun a109 hf => ?_) (fun k109 hk109 hf => ?_)
              · refine a_istore (pc := 109) [(9, .int a109), (1, .int x1), (2, .int x2), (3, .int x3), (4, .int x4), (5, .int x5), (6, .int a70.1), (7, .int a70.2.1), (8, .int a70.2.2)] C dX8_next_109 (by decide) rfl ?_
                refine a_iload (pc := 111) C dX8_next_111 0 rfl ?_
                refine a_i2l (pc := 113) C dX8_next_113 ?_
                refine a_iload (pc := 114) C dX8_next_114 7 rfl ?_
                refine a_i2l (pc := 116) C dX8_next_116 ?_
                refine a_lmul (pc := 117) C dX8_next_117 ?_
                refine a_nml hf (fun v13 hf => ?_)
                refine a_lstore (pc := 118) [(10, .long v13), (9, .int a109), (1, .int x1), (2, .int x2), (3, .int x3), (4, .int x4), (5, .int x5), (6, .int a70.1), (7, .int a70.2.1), (8, .int a70.2.2)] C dX8_next_118 (by decide) rfl ?_
                refine a_iload (pc := 120) C dX8_next_120 7 rfl ?_
                refine a_i2l (pc := 122) C dX8_next_122 ?_
                refine a_iload (pc := 123) C dX8_next_123 9 rfl ?_
                refine a_i2l (pc := 125) C dX8_next_125 ?_
                refine a_lmul (pc := 126) C dX8_next_126 ?_
                refine a_nml hf (fun v14 hf => ?_)
                refine a_lstore (pc := 127) [(12, .long v14), (10, .long v13), (9, .int a109), (1, .int x1), (2, .int x2), (3, .int x3), (4, .int x4), (5, .int x5), (6, .int a70.1), (7, .int a70.2.1), (8, .int a70.2.2)] C dX8_next_127 (by decide) rfl ?_
                refine a_iload (pc := 129) C dX8_next_129 2 rfl ?_
                refine a_iconst (pc := 131) (v := (-1)) C dX8_next_131 (by decide) ?_
                refine a_jn 177 (fun a177 : Int32 × Int32 => [(1, .int x1), (2, .int x2), (3, .int x3), (4, .int x4), (5, .int x5), (6, .int a177.1), (7, .int a177.2), (8, .int a70.2.2)]) (fun a177 : Int32 × Int32 => []) (fun a177 : Int32 × Int32 => M) hf (fun a177 hf => ?_) (fun k177 hk177 hf => ?_)
                · refine a_iinc (pc := 177) (v := 1) (fun v15 => [(8, .int v15), (1, .int x1), (2, .int x2), (3, .int x3), (4, .int x4), (5, .int x5), (6, .int a177.1), (7, .int a177.2)]) C dX8_next_177 7 rfl (by decide) (by decide) (fun _ => rfl) hf (fun v15 hf => ?_)
                  refine a_goto (pc := 180) 70 C dX8_next_180 (by decide) ?_
                  exact a_sub [1, 2, 3, 4, 5, 6, 7, 0] rfl (hk70 (a177.1, a177.2, v15) hf)
                · refine a_icmp_eq (pc := 132) 177 C dX8_next_132 (by decide) hf (fun hf => ?_) (fun hf => ?_)
                  · exact a_sub [3, 4, 5, 6, 7, 8, 9, 10] rfl (hk177 (a70.1, a70.2.1) hf)
                  · refine a_iload (pc := 135) C dX8_next_135 8 rfl ?_
                    refine a_iconst (pc := 137) (v := (-1)) C dX8_next_137 (by decide) ?_
                    refine a_jn 169 (fun a169 : Unit => [(1, .int x1), (2, .int x2), (3, .int x3), (4, .int x4), (5, .int x5), (8, .int a70.2.2), (9, .int a109)]) (fun a169 : Unit => []) (fun a169 : Unit => M) hf (fun a169 hf => ?_) (fun k169 hk169 hf => ?_)
                    · refine a_iload (pc := 169) C dX8_next_169 6 rfl ?_
                      refine a_istore (pc := 171) [(6, .int a109), (1, .int x1), (2, .int x2), (3, .int x3), (4, .int x4), (5, .int x5), (8, .int a70.2.2), (9, .int a109)] C dX8_next_171 (by decide) rfl ?_
                      refine a_iload (pc := 173) C dX8_next_173 6 rfl ?_
                      refine a_istore (pc := 175) [(7, .int a70.2.2), (6, .int a109), (1, .int x1), (2, .int x2), (3, .int x3), (4, .int x4), (5, .int x5), (8, .int a70.2.2), (9, .int a109)] C dX8_next_175 (by decide) rfl ?_
                      exact a_sub [2, 3, 4, 5, 6, 1, 0, 7] rfl (hk177 (a109, a70.2.2) hf)
                    · refine a_icmp_eq (pc := 138) 169 C dX8_next_138 (by decide) hf (fun hf => ?_) (fun hf => ?_)
                      · exact a_sub [3, 4, 5, 6, 7, 10, 2] rfl (hk169 () hf)
                      · refine a_iload (pc := 141) C dX8_next_141 6 rfl ?_
                        refine a_iconst (pc := 143) (v := 1) C dX8_next_143 (by decide) ?_
                        refine a_icmp_ne (pc := 144) 158 C dX8_next_144 (by decide) hf (fun hf => ?_) (fun hf => ?_)
                        · refine a_lload (pc := 158) C dX8_next_158 1 rfl ?_
                          refine a_lload (pc := 160) C dX8_next_160 0 rfl ?_
                          refine a_lcmp (pc := 162) C dX8_next_162 ?_
                          refine a_if_gt (pc := 163) 169 C dX8_next_163 (by decide) hf (fun hf => ?_) (fun hf => ?_)
                          · exact a_sub [3, 4, 5, 6, 7, 10, 2] rfl (hk169 () hf)
                          · refine a_goto (pc := 166) 177 C dX8_next_166 (by decide) ?_
                            exact a_sub [3, 4, 5, 6, 7, 8, 9, 10] rfl (hk177 (a70.1, a70.2.1) hf)
                        · refine a_lload (pc := 147) C dX8_next_147 1 rfl ?_
                          refine a_lload (pc := 149) C dX8_next_149 0 rfl ?_
                          refine a_lcmp (pc := 151) C dX8_next_151 ?_
                          refine a_if_lt (pc := 152) 169 C dX8_next_152 (by decide) hf (fun hf => ?_) (fun hf => ?_)
                          · exact a_sub [3, 4, 5, 6, 7, 10, 2] rfl (hk169 () hf)
                          · refine a_goto (pc := 155) 177 C dX8_next_155 (by decide) ?_
                            exact a_sub [3, 4, 5, 6, 7, 8, 9, 10] rfl (hk177 (a70.1, a70.2.1) hf)
              · refine a_icmp_ne (pc := 79) 93 C dX8_next_79 (by decide) hf (fun hf => ?_) (fun hf => ?_)
                · refine a_iload_n (pc := 93) C dX8_next_93 0 rfl ?_
                  refine a_if_ne (pc := 94) 101 C dX8_next_94 (by decide) hf (fun hf => ?_) (fun hf => ?_)
                  · refine a_iload_n (pc := 101) C dX8_next_101 0 rfl ?_
                    refine a_iload (pc := 102) C dX8_next_102 7 rfl ?_
                    refine a_imul (pc := 104) C dX8_next_104 ?_
                    refine a_iconst (pc := 105) (v := 1) C dX8_next_105 (by decide) ?_
                    refine a_isub (pc := 106) C dX8_next_106 ?_
                    refine a_iload_n (pc := 107) C dX8_next_107 1 rfl ?_
                    refine a_idiv (pc := 108) C dX8_next_108 hf (fun hf => ?_)
                    exact a_sub [0, 1, 2, 3, 4, 5, 6, 7] rfl (hk109 (((x1 * a70.2.2) - (1 : Int32)) / x2) hf)
                  · refine a_iconst (pc := 97) (v := (-1)) C dX8_next_97 (by decide) ?_
                    refine a_goto (pc := 98) 109 C dX8_next_98 (by decide) ?_
                    exact a_sub [0, 1, 2, 3, 4, 5, 6, 7] rfl (hk109 (-1 : Int32) hf)
                · refine a_iload_n (pc := 82) C dX8_next_82 0 rfl ?_
                  refine a_iload (pc := 83) C dX8_next_83 7 rfl ?_
                  refine a_imul (pc := 85) C dX8_next_85 ?_
                  refine a_iload_n (pc := 86) C dX8_next_86 1 rfl ?_
                  refine a_idiv (pc := 87) C dX8_next_87 hf (fun hf => ?_)
                  refine a_iconst (pc := 88) (v := 1) C dX8_next_88 (by decide) ?_
                  refine a_iadd (pc := 89) C dX8_next_89 ?_
                  refine a_goto (pc := 90) 109 C dX8_next_90 (by decide) ?_
                  exact a_sub [0, 1, 2, 3, 4, 5, 6, 7] rfl (hk109 (((x1 * a70.2.2) / x2) + (1 : Int32)) hf)
          · refine a_bipush (pc := 58) (v := (-2)) C dX8_next_58 (by decide) ?_
            exact a_iret (pc := 60) C dX8_next_60 (Option.some.inj hf) rfl
theorem dX8_isHold_0 : decode cX8_isHold 0 = .ok (.iload_n 0, 1) := by decide +kernel
theorem dX8_isHold_1 : decode cX8_isHold 1 = .ok (.i2l, 1) := by decide +kernel
theorem dX8_isHold_2 : decode cX8_isHold 2 = .ok (.lconst 0, 1) := by decide +kernel
theorem dX8_isHold_3 : decode cX8_isHold 3 = .ok (.ldc2_w 120, 3) := by decide +kernel
theorem dX8_isHold_6 : decode cX8_isHold 6 = .ok (.invokestatic 98, 3) := by decide +kernel
theorem dX8_isHold_9 : decode cX8_isHold 9 = .ok (.ireturn, 1) := by decide +kernel
def f_X8_isHold (N : Nat) (x0 : Int32) (M : Mem) : Option (Int32) := bd (f_X8_in N x0.toInt64 (0 : Int64) (3 : Int64) M) (fun v1 => ck (v1 = 0 ∨ v1 = 1) (some v1))
set_option maxRecDepth 100000 in
set_option maxHeartbeats 4000000 in
theorem c_X8_isHold {l : Launch} {D : va_G} {ac : Nat → ClassId} {A : Nat → Prop} {ad : Nat → Nat} {rest : va_W} (N : Nat) (x0 : Int32)  (M : Mem) (r0 : Int32) (hf : f_X8_isHold N x0 M = some r0) : CtI l D ac A tabM ad rest yX8_isHold cX8_isHold 1 .boolean 2 [.int x0] M r0 M := by
  refine ct_ofI (own := RX8) (by decide +kernel) rfl (Nat.le_of_ble_eq_true rfl) ?_
  intro p e s m args below meth c C
  unfold f_X8_isHold at hf
  refine a_L (L' := [(0, .int x0)]) rfl ?_
  refine a_iload_n (pc := 0) C dX8_isHold_0 0 rfl ?_
  refine a_i2l (pc := 1) C dX8_isHold_1 ?_
  refine a_lconst (pc := 2) (v := 0) C dX8_isHold_2 (by decide) ?_
  refine a_ldc2 (pc := 3) C dX8_isHold_3 cj_X8_120 ?_
  refine a_callS_Ir (pc := 6) (d' := 1) C dX8_isHold_6 ml_X8_98 mc_X8_in ms_X8_in [.long x0.toInt64, .long (0 : Int64), .long (3 : Int64)] rfl (Nat.le_of_ble_eq_true rfl) (Nat.le_of_ble_eq_true rfl) rfl (Nat.le_of_ble_eq_true rfl) (fun r h => c_X8_in N x0.toInt64 (0 : Int64) (3 : Int64)  _  r h) hf (fun v1 hf => ?_)
  exact a_zret (pc := 9) C dX8_isHold_9 (ck_some hf).1 (Option.some.inj (ck_some hf).2) rfl
theorem dX8_feed_0 : decode cX8_feed 0 = .ok (.iload_n 2, 1) := by decide +kernel
theorem dX8_feed_1 : decode cX8_feed 1 = .ok (.i2l, 1) := by decide +kernel
theorem dX8_feed_2 : decode cX8_feed 2 = .ok (.lconst 1, 1) := by decide +kernel
theorem dX8_feed_3 : decode cX8_feed 3 = .ok (.ldc2_w 118, 3) := by decide +kernel
theorem dX8_feed_6 : decode cX8_feed 6 = .ok (.invokestatic 98, 3) := by decide +kernel
theorem dX8_feed_9 : decode cX8_feed 9 = .ok (.ifCond .ne 6, 3) := by decide +kernel
theorem dX8_feed_12 : decode cX8_feed 12 = .ok (.bipush (-2), 2) := by decide +kernel
theorem dX8_feed_14 : decode cX8_feed 14 = .ok (.ireturn, 1) := by decide +kernel
theorem dX8_feed_15 : decode cX8_feed 15 = .ok (.aload_n 0, 1) := by decide +kernel
theorem dX8_feed_16 : decode cX8_feed 16 = .ok (.getfield 145, 3) := by decide +kernel
theorem dX8_feed_19 : decode cX8_feed 19 = .ok (.iload_n 2, 1) := by decide +kernel
theorem dX8_feed_20 : decode cX8_feed 20 = .ok (.iadd, 1) := by decide +kernel
theorem dX8_feed_21 : decode cX8_feed 21 = .ok (.bipush 120, 2) := by decide +kernel
theorem dX8_feed_23 : decode cX8_feed 23 = .ok (.if_icmp .le 6, 3) := by decide +kernel
theorem dX8_feed_26 : decode cX8_feed 26 = .ok (.bipush (-4), 2) := by decide +kernel
theorem dX8_feed_28 : decode cX8_feed 28 = .ok (.ireturn, 1) := by decide +kernel
theorem dX8_feed_29 : decode cX8_feed 29 = .ok (.iload_n 2, 1) := by decide +kernel
theorem dX8_feed_30 : decode cX8_feed 30 = .ok (.iconst 1, 1) := by decide +kernel
theorem dX8_feed_31 : decode cX8_feed 31 = .ok (.isub, 1) := by decide +kernel
theorem dX8_feed_32 : decode cX8_feed 32 = .ok (.istore_n 3, 1) := by decide +kernel
theorem dX8_feed_33 : decode cX8_feed 33 = .ok (.iload_n 3, 1) := by decide +kernel
theorem dX8_feed_34 : decode cX8_feed 34 = .ok (.ifCond .lt 38, 3) := by decide +kernel
theorem dX8_feed_37 : decode cX8_feed 37 = .ok (.aload_n 0, 1) := by decide +kernel
theorem dX8_feed_38 : decode cX8_feed 38 = .ok (.getfield 71, 3) := by decide +kernel
theorem dX8_feed_41 : decode cX8_feed 41 = .ok (.aload_n 0, 1) := by decide +kernel
theorem dX8_feed_42 : decode cX8_feed 42 = .ok (.getfield 145, 3) := by decide +kernel
theorem dX8_feed_45 : decode cX8_feed 45 = .ok (.iload_n 1, 1) := by decide +kernel
theorem dX8_feed_46 : decode cX8_feed 46 = .ok (.bipush 8, 2) := by decide +kernel
theorem dX8_feed_48 : decode cX8_feed 48 = .ok (.iload_n 3, 1) := by decide +kernel
theorem dX8_feed_49 : decode cX8_feed 49 = .ok (.imul, 1) := by decide +kernel
theorem dX8_feed_50 : decode cX8_feed 50 = .ok (.ishr, 1) := by decide +kernel
theorem dX8_feed_51 : decode cX8_feed 51 = .ok (.sipush 255, 3) := by decide +kernel
theorem dX8_feed_54 : decode cX8_feed 54 = .ok (.iand, 1) := by decide +kernel
theorem dX8_feed_55 : decode cX8_feed 55 = .ok (.iastore, 1) := by decide +kernel
theorem dX8_feed_56 : decode cX8_feed 56 = .ok (.aload_n 0, 1) := by decide +kernel
theorem dX8_feed_57 : decode cX8_feed 57 = .ok (.dup, 1) := by decide +kernel
theorem dX8_feed_58 : decode cX8_feed 58 = .ok (.getfield 145, 3) := by decide +kernel
theorem dX8_feed_61 : decode cX8_feed 61 = .ok (.iconst 1, 1) := by decide +kernel
theorem dX8_feed_62 : decode cX8_feed 62 = .ok (.iadd, 1) := by decide +kernel
theorem dX8_feed_63 : decode cX8_feed 63 = .ok (.putfield 145, 3) := by decide +kernel
theorem dX8_feed_66 : decode cX8_feed 66 = .ok (.iinc 3 (-1), 3) := by decide +kernel
theorem dX8_feed_69 : decode cX8_feed 69 = .ok (.goto (-36), 3) := by decide +kernel
theorem dX8_feed_72 : decode cX8_feed 72 = .ok (.aload_n 0, 1) := by decide +kernel
theorem dX8_feed_73 : decode cX8_feed 73 = .ok (.getfield 145, 3) := by decide +kernel
theorem dX8_feed_76 : decode cX8_feed 76 = .ok (.ireturn, 1) := by decide +kernel
def f_X8_feed (N : Nat) (x1 : Int32) (x2 : Int32) (M : Mem) : Option (Int32 × Mem) := bd (f_X8_in N x2.toInt64 (1 : Int64) (4 : Int64) M) (fun v1 => if v1 = 0 then (some ((-2 : Int32), M)) else (if ((M.1 0 31) + x2) ≤ (120 : Int32) then (nm (x2 - (1 : Int32)) (fun v3 => lp (fun (k33 : (Int32 × Mem) → Option (Int32 × Mem)) (a33 : Int32 × Mem) => if a33.1 < 0 then (some ((a33.2.1 0 31), a33.2)) else (ck (inb (a33.2.1 0 31) 120) (nm (setI a33.2 18 (a33.2.1 0 31).toNatClampNeg ((x1 >>> (((8 : Int32) * a33.1) &&& 31)) &&& (255 : Int32))) (fun M4 => nm (setI M4 0 31 ((M4.1 0 31) + (1 : Int32))) (fun M5 => nm (a33.1 + (-1 : Int32)) (fun v6 => k33 (v6, M5))))))) N (v3, M))) else (some ((-4 : Int32), M))))
set_option maxRecDepth 100000 in
set_option maxHeartbeats 4000000 in
theorem c_X8_feed {l : Launch} {D : va_G} {ac : Nat → ClassId} {A : Nat → Prop} {ad : Nat → Nat} {rest : va_W} (N : Nat) (x1 : Int32) (x2 : Int32)  (M : Mem) (r0 : Int32) (M0 : Mem) (hf : f_X8_feed N x1 x2 M = some (r0, M0)) : CtI l D ac A tabM ad rest yX8_feed cX8_feed 4 .int 2 [.ref (ad 0), .int x1, .int x2] M r0 M0 := by
  refine ct_ofI (own := RX8) (by decide +kernel) rfl (Nat.le_of_ble_eq_true rfl) ?_
  intro p e s m args below meth c C
  unfold f_X8_feed at hf
  refine a_L (L' := [(0, .ref (ad 0)), (1, .int x1), (2, .int x2)]) rfl ?_
  refine a_iload_n (pc := 0) C dX8_feed_0 2 rfl ?_
  refine a_i2l (pc := 1) C dX8_feed_1 ?_
  refine a_lconst (pc := 2) (v := 1) C dX8_feed_2 (by decide) ?_
  refine a_ldc2 (pc := 3) C dX8_feed_3 cj_X8_118 ?_
  refine a_callS_Ir (pc := 6) (d' := 1) C dX8_feed_6 ml_X8_98 mc_X8_in ms_X8_in [.long x2.toInt64, .long (1 : Int64), .long (4 : Int64)] rfl (Nat.le_of_ble_eq_true rfl) (Nat.le_of_ble_eq_true rfl) rfl (Nat.le_of_ble_eq_true rfl) (fun r h => c_X8_in N x2.toInt64 (1 : Int64) (4 : Int64)  _  r h) hf (fun v1 hf => ?_)
  refine a_if_ne (pc := 9) 15 C dX8_feed_9 (by decide) hf (fun hf => ?_) (fun hf => ?_)
  · refine a_aload_n (pc := 15) C dX8_feed_15 0 rfl ?_
    refine a_getI (pc := 16) C dX8_feed_16 fl_X8_145 tm_0 rfl ?_
    refine a_iload_n (pc := 19) C dX8_feed_19 2 rfl ?_
    refine a_iadd (pc := 20) C dX8_feed_20 ?_
    refine a_bipush (pc := 21) (v := 120) C dX8_feed_21 (by decide) ?_
    refine a_icmp_le (pc := 23) 29 C dX8_feed_23 (by decide) hf (fun hf => ?_) (fun hf => ?_)
    · refine a_iload_n (pc := 29) C dX8_feed_29 2 rfl ?_
      refine a_iconst (pc := 30) (v := 1) C dX8_feed_30 (by decide) ?_
      refine a_isub (pc := 31) C dX8_feed_31 ?_
      refine a_nmi hf (fun v3 hf => ?_)
      refine a_istore_n (pc := 32) [(3, .int v3), (0, .ref (ad 0)), (1, .int x1), (2, .int x2)] C dX8_feed_32 (by decide) rfl ?_
      refine a_sub [1, 2, 0] rfl ?_
      refine a_lp 33 (fun a33 : Int32 × Mem => [(0, .ref (ad 0)), (1, .int x1), (3, .int a33.1)]) (fun a33 : Int32 × Mem => []) (fun a33 : Int32 × Mem => a33.2) (fun k33 a33 hk33 hf => ?_) N (v3, M) hf
      refine a_iload_n (pc := 33) C dX8_feed_33 2 rfl ?_
      refine a_if_lt (pc := 34) 72 C dX8_feed_34 (by decide) hf (fun hf => ?_) (fun hf => ?_)
      · refine a_aload_n (pc := 72) C dX8_feed_72 0 rfl ?_
        refine a_getI (pc := 73) C dX8_feed_73 fl_X8_145 tm_0 rfl ?_
        exact a_iret (pc := 76) C dX8_feed_76 (so_1 hf) (so_2 hf)
      · refine a_aload_n (pc := 37) C dX8_feed_37 0 rfl ?_
        refine a_getR (pc := 38) C dX8_feed_38 fl_X8_71 tm_0 rfl ?_
        refine a_aload_n (pc := 41) C dX8_feed_41 0 rfl ?_
        refine a_getI (pc := 42) C dX8_feed_42 fl_X8_145 tm_0 rfl ?_
        refine a_iload_n (pc := 45) C dX8_feed_45 1 rfl ?_
        refine a_bipush (pc := 46) (v := 8) C dX8_feed_46 (by decide) ?_
        refine a_iload_n (pc := 48) C dX8_feed_48 2 rfl ?_
        refine a_imul (pc := 49) C dX8_feed_49 ?_
        refine a_ishr (pc := 50) C dX8_feed_50 ?_
        refine a_sipush (pc := 51) (v := 255) C dX8_feed_51 (by decide) ?_
        refine a_iand (pc := 54) C dX8_feed_54 ?_
        refine a_iast (pc := 55) C dX8_feed_55 tm_18 hf (fun M4 hf => ?_)
        refine a_aload_n (pc := 56) C dX8_feed_56 0 rfl ?_
        refine a_dup (pc := 57) C dX8_feed_57 rfl ?_
        refine a_getI (pc := 58) C dX8_feed_58 fl_X8_145 tm_0 rfl ?_
        refine a_iconst (pc := 61) (v := 1) C dX8_feed_61 (by decide) ?_
        refine a_iadd (pc := 62) C dX8_feed_62 ?_
        refine a_putI (pc := 63) C dX8_feed_63 fl_X8_145 tm_0 rfl hf (fun M5 hf => ?_)
        refine a_iinc (pc := 66) (v := (-1)) (fun v6 => [(3, .int v6), (0, .ref (ad 0)), (1, .int x1)]) C dX8_feed_66 2 rfl (by decide) (by decide) (fun _ => rfl) hf (fun v6 hf => ?_)
        refine a_goto (pc := 69) 33 C dX8_feed_69 (by decide) ?_
        exact a_sub [1, 2, 0] rfl (hk33 (v6, M5) hf)
    · refine a_bipush (pc := 26) (v := (-4)) C dX8_feed_26 (by decide) ?_
      exact a_iret (pc := 28) C dX8_feed_28 (so_1 hf) (so_2 hf)
  · refine a_bipush (pc := 12) (v := (-2)) C dX8_feed_12 (by decide) ?_
    exact a_iret (pc := 14) C dX8_feed_14 (so_1 hf) (so_2 hf)
theorem dX8_isAt_0 : decode cX8_isAt 0 = .ok (.aload_n 0, 1) := by decide +kernel
theorem dX8_isAt_1 : decode cX8_isAt 1 = .ok (.getfield 302, 3) := by decide +kernel
theorem dX8_isAt_4 : decode cX8_isAt 4 = .ok (.aload_n 0, 1) := by decide +kernel
theorem dX8_isAt_5 : decode cX8_isAt 5 = .ok (.getfield 145, 3) := by decide +kernel
theorem dX8_isAt_8 : decode cX8_isAt 8 = .ok (.if_icmp .ge 27, 3) := by decide +kernel
theorem dX8_isAt_11 : decode cX8_isAt 11 = .ok (.aload_n 0, 1) := by decide +kernel
theorem dX8_isAt_12 : decode cX8_isAt 12 = .ok (.getfield 71, 3) := by decide +kernel
theorem dX8_isAt_15 : decode cX8_isAt 15 = .ok (.aload_n 0, 1) := by decide +kernel
theorem dX8_isAt_16 : decode cX8_isAt 16 = .ok (.getfield 302, 3) := by decide +kernel
theorem dX8_isAt_19 : decode cX8_isAt 19 = .ok (.iaload, 1) := by decide +kernel
theorem dX8_isAt_20 : decode cX8_isAt 20 = .ok (.i2l, 1) := by decide +kernel
theorem dX8_isAt_21 : decode cX8_isAt 21 = .ok (.iload_n 1, 1) := by decide +kernel
theorem dX8_isAt_22 : decode cX8_isAt 22 = .ok (.i2l, 1) := by decide +kernel
theorem dX8_isAt_23 : decode cX8_isAt 23 = .ok (.iload_n 2, 1) := by decide +kernel
theorem dX8_isAt_24 : decode cX8_isAt 24 = .ok (.i2l, 1) := by decide +kernel
theorem dX8_isAt_25 : decode cX8_isAt 25 = .ok (.invokestatic 98, 3) := by decide +kernel
theorem dX8_isAt_28 : decode cX8_isAt 28 = .ok (.ifCond .eq 7, 3) := by decide +kernel
theorem dX8_isAt_31 : decode cX8_isAt 31 = .ok (.iconst 1, 1) := by decide +kernel
theorem dX8_isAt_32 : decode cX8_isAt 32 = .ok (.goto 4, 3) := by decide +kernel
theorem dX8_isAt_35 : decode cX8_isAt 35 = .ok (.iconst 0, 1) := by decide +kernel
theorem dX8_isAt_36 : decode cX8_isAt 36 = .ok (.ireturn, 1) := by decide +kernel
def f_X8_isAt (N : Nat) (x1 : Int32) (x2 : Int32) (M : Mem) : Option (Int32) := jn (fun (a35 : Unit) => some (0 : Int32)) (fun (k35 : Unit → Option (Int32)) => if (M.1 0 31) ≤ (M.1 0 33) then (k35 ()) else (ck (inb (M.1 0 33) 120) (bd (f_X8_in N ((M.1 18 (M.1 0 33).toNatClampNeg).toInt64) x1.toInt64 x2.toInt64 M) (fun v1 => if v1 = 0 then (k35 ()) else (some (1 : Int32))))))
set_option maxRecDepth 100000 in
set_option maxHeartbeats 4000000 in
theorem c_X8_isAt {l : Launch} {D : va_G} {ac : Nat → ClassId} {A : Nat → Prop} {ad : Nat → Nat} {rest : va_W} (N : Nat) (x1 : Int32) (x2 : Int32)  (M : Mem) (r0 : Int32) (hf : f_X8_isAt N x1 x2 M = some r0) : CtI l D ac A tabM ad rest yX8_isAt cX8_isAt 3 .boolean 2 [.ref (ad 0), .int x1, .int x2] M r0 M := by
  refine ct_ofI (own := RX8) (by decide +kernel) rfl (Nat.le_of_ble_eq_true rfl) ?_
  intro p e s m args below meth c C
  unfold f_X8_isAt at hf
  refine a_L (L' := [(0, .ref (ad 0)), (1, .int x1), (2, .int x2)]) rfl ?_
  refine a_aload_n (pc := 0) C dX8_isAt_0 0 rfl ?_
  refine a_getI (pc := 1) C dX8_isAt_1 fl_X8_302 tm_0 rfl ?_
  refine a_aload_n (pc := 4) C dX8_isAt_4 0 rfl ?_
  refine a_getI (pc := 5) C dX8_isAt_5 fl_X8_145 tm_0 rfl ?_
  refine a_jn 35 (fun a35 : Unit => []) (fun a35 : Unit => []) (fun a35 : Unit => M) hf (fun a35 hf => ?_) (fun k35 hk35 hf => ?_)
  · refine a_iconst (pc := 35) (v := 0) C dX8_isAt_35 (by decide) ?_
    exact a_zret (pc := 36) C dX8_isAt_36 (Or.inl rfl) (Option.some.inj hf) rfl
  · refine a_icmp_ge (pc := 8) 35 C dX8_isAt_8 (by decide) hf (fun hf => ?_) (fun hf => ?_)
    · exact a_sub [] rfl (hk35 () hf)
    · refine a_aload_n (pc := 11) C dX8_isAt_11 0 rfl ?_
      refine a_getR (pc := 12) C dX8_isAt_12 fl_X8_71 tm_0 rfl ?_
      refine a_aload_n (pc := 15) C dX8_isAt_15 0 rfl ?_
      refine a_getI (pc := 16) C dX8_isAt_16 fl_X8_302 tm_0 rfl ?_
      refine a_iald (pc := 19) C dX8_isAt_19 tm_18 hf (fun hf => ?_)
      refine a_i2l (pc := 20) C dX8_isAt_20 ?_
      refine a_iload_n (pc := 21) C dX8_isAt_21 1 rfl ?_
      refine a_i2l (pc := 22) C dX8_isAt_22 ?_
      refine a_iload_n (pc := 23) C dX8_isAt_23 2 rfl ?_
      refine a_i2l (pc := 24) C dX8_isAt_24 ?_
      refine a_callS_Ir (pc := 25) (d' := 1) C dX8_isAt_25 ml_X8_98 mc_X8_in ms_X8_in [.long ((M.1 18 (M.1 0 33).toNatClampNeg).toInt64), .long x1.toInt64, .long x2.toInt64] rfl (Nat.le_of_ble_eq_true rfl) (Nat.le_of_ble_eq_true rfl) rfl (Nat.le_of_ble_eq_true rfl) (fun r h => c_X8_in N ((M.1 18 (M.1 0 33).toNatClampNeg).toInt64) x1.toInt64 x2.toInt64  _  r h) hf (fun v1 hf => ?_)
      refine a_if_eq (pc := 28) 35 C dX8_isAt_28 (by decide) hf (fun hf => ?_) (fun hf => ?_)
      · exact a_sub [] rfl (hk35 () hf)
      · refine a_iconst (pc := 31) (v := 1) C dX8_isAt_31 (by decide) ?_
        refine a_goto (pc := 32) 36 C dX8_isAt_32 (by decide) ?_
        exact a_zret (pc := 36) C dX8_isAt_36 (Or.inr rfl) (Option.some.inj hf) rfl
theorem dX8_kindRead_0 : decode cX8_kindRead 0 = .ok (.aload_n 0, 1) := by decide +kernel
theorem dX8_kindRead_1 : decode cX8_kindRead 1 = .ok (.bipush 112, 2) := by decide +kernel
theorem dX8_kindRead_3 : decode cX8_kindRead 3 = .ok (.bipush 108, 2) := by decide +kernel
theorem dX8_kindRead_5 : decode cX8_kindRead 5 = .ok (.bipush 97, 2) := by decide +kernel
theorem dX8_kindRead_7 : decode cX8_kindRead 7 = .ok (.bipush 105, 2) := by decide +kernel
theorem dX8_kindRead_9 : decode cX8_kindRead 9 = .ok (.bipush 110, 2) := by decide +kernel
theorem dX8_kindRead_11 : decode cX8_kindRead 11 = .ok (.iconst 0, 1) := by decide +kernel
theorem dX8_kindRead_12 : decode cX8_kindRead 12 = .ok (.invokevirtual 317, 3) := by decide +kernel
theorem dX8_kindRead_15 : decode cX8_kindRead 15 = .ok (.ifCond .eq 7, 3) := by decide +kernel
theorem dX8_kindRead_18 : decode cX8_kindRead 18 = .ok (.iconst 0, 1) := by decide +kernel
theorem dX8_kindRead_19 : decode cX8_kindRead 19 = .ok (.goto 88, 3) := by decide +kernel
theorem dX8_kindRead_22 : decode cX8_kindRead 22 = .ok (.aload_n 0, 1) := by decide +kernel
theorem dX8_kindRead_23 : decode cX8_kindRead 23 = .ok (.bipush 119, 2) := by decide +kernel
theorem dX8_kindRead_25 : decode cX8_kindRead 25 = .ok (.bipush 105, 2) := by decide +kernel
theorem dX8_kindRead_27 : decode cX8_kindRead 27 = .ok (.bipush 100, 2) := by decide +kernel
theorem dX8_kindRead_29 : decode cX8_kindRead 29 = .ok (.bipush 101, 2) := by decide +kernel
theorem dX8_kindRead_31 : decode cX8_kindRead 31 = .ok (.iconst 0, 1) := by decide +kernel
theorem dX8_kindRead_32 : decode cX8_kindRead 32 = .ok (.iconst 0, 1) := by decide +kernel
theorem dX8_kindRead_33 : decode cX8_kindRead 33 = .ok (.invokevirtual 317, 3) := by decide +kernel
theorem dX8_kindRead_36 : decode cX8_kindRead 36 = .ok (.ifCond .eq 7, 3) := by decide +kernel
theorem dX8_kindRead_39 : decode cX8_kindRead 39 = .ok (.iconst 1, 1) := by decide +kernel
theorem dX8_kindRead_40 : decode cX8_kindRead 40 = .ok (.goto 67, 3) := by decide +kernel
theorem dX8_kindRead_43 : decode cX8_kindRead 43 = .ok (.aload_n 0, 1) := by decide +kernel
theorem dX8_kindRead_44 : decode cX8_kindRead 44 = .ok (.bipush 116, 2) := by decide +kernel
theorem dX8_kindRead_46 : decode cX8_kindRead 46 = .ok (.bipush 104, 2) := by decide +kernel
theorem dX8_kindRead_48 : decode cX8_kindRead 48 = .ok (.bipush 105, 2) := by decide +kernel
theorem dX8_kindRead_50 : decode cX8_kindRead 50 = .ok (.bipush 110, 2) := by decide +kernel
theorem dX8_kindRead_52 : decode cX8_kindRead 52 = .ok (.iconst 0, 1) := by decide +kernel
theorem dX8_kindRead_53 : decode cX8_kindRead 53 = .ok (.iconst 0, 1) := by decide +kernel
theorem dX8_kindRead_54 : decode cX8_kindRead 54 = .ok (.invokevirtual 317, 3) := by decide +kernel
theorem dX8_kindRead_57 : decode cX8_kindRead 57 = .ok (.ifCond .eq 7, 3) := by decide +kernel
theorem dX8_kindRead_60 : decode cX8_kindRead 60 = .ok (.iconst 2, 1) := by decide +kernel
theorem dX8_kindRead_61 : decode cX8_kindRead 61 = .ok (.goto 46, 3) := by decide +kernel
theorem dX8_kindRead_64 : decode cX8_kindRead 64 = .ok (.aload_n 0, 1) := by decide +kernel
theorem dX8_kindRead_65 : decode cX8_kindRead 65 = .ok (.bipush 115, 2) := by decide +kernel
theorem dX8_kindRead_67 : decode cX8_kindRead 67 = .ok (.bipush 112, 2) := by decide +kernel
theorem dX8_kindRead_69 : decode cX8_kindRead 69 = .ok (.bipush 97, 2) := by decide +kernel
theorem dX8_kindRead_71 : decode cX8_kindRead 71 = .ok (.bipush 110, 2) := by decide +kernel
theorem dX8_kindRead_73 : decode cX8_kindRead 73 = .ok (.iconst 0, 1) := by decide +kernel
theorem dX8_kindRead_74 : decode cX8_kindRead 74 = .ok (.iconst 0, 1) := by decide +kernel
theorem dX8_kindRead_75 : decode cX8_kindRead 75 = .ok (.invokevirtual 317, 3) := by decide +kernel
theorem dX8_kindRead_78 : decode cX8_kindRead 78 = .ok (.ifCond .eq 7, 3) := by decide +kernel
theorem dX8_kindRead_81 : decode cX8_kindRead 81 = .ok (.iconst 3, 1) := by decide +kernel
theorem dX8_kindRead_82 : decode cX8_kindRead 82 = .ok (.goto 25, 3) := by decide +kernel
theorem dX8_kindRead_85 : decode cX8_kindRead 85 = .ok (.aload_n 0, 1) := by decide +kernel
theorem dX8_kindRead_86 : decode cX8_kindRead 86 = .ok (.bipush 101, 2) := by decide +kernel
theorem dX8_kindRead_88 : decode cX8_kindRead 88 = .ok (.bipush 118, 2) := by decide +kernel
theorem dX8_kindRead_90 : decode cX8_kindRead 90 = .ok (.bipush 101, 2) := by decide +kernel
theorem dX8_kindRead_92 : decode cX8_kindRead 92 = .ok (.bipush 110, 2) := by decide +kernel
theorem dX8_kindRead_94 : decode cX8_kindRead 94 = .ok (.iconst 0, 1) := by decide +kernel
theorem dX8_kindRead_95 : decode cX8_kindRead 95 = .ok (.iconst 0, 1) := by decide +kernel
theorem dX8_kindRead_96 : decode cX8_kindRead 96 = .ok (.invokevirtual 317, 3) := by decide +kernel
theorem dX8_kindRead_99 : decode cX8_kindRead 99 = .ok (.ifCond .eq 7, 3) := by decide +kernel
theorem dX8_kindRead_102 : decode cX8_kindRead 102 = .ok (.iconst 4, 1) := by decide +kernel
theorem dX8_kindRead_103 : decode cX8_kindRead 103 = .ok (.goto 4, 3) := by decide +kernel
theorem dX8_kindRead_106 : decode cX8_kindRead 106 = .ok (.iconst (-1), 1) := by decide +kernel
theorem dX8_kindRead_107 : decode cX8_kindRead 107 = .ok (.ireturn, 1) := by decide +kernel
def f_X8_kindRead (N : Nat)  (M : Mem) : Option (Int32) := bd (f_X8_isWord N (112 : Int32) (108 : Int32) (97 : Int32) (105 : Int32) (110 : Int32) (0 : Int32) M) (fun v1 => if v1 = 0 then (bd (f_X8_isWord N (119 : Int32) (105 : Int32) (100 : Int32) (101 : Int32) (0 : Int32) (0 : Int32) M) (fun v3 => if v3 = 0 then (bd (f_X8_isWord N (116 : Int32) (104 : Int32) (105 : Int32) (110 : Int32) (0 : Int32) (0 : Int32) M) (fun v5 => if v5 = 0 then (bd (f_X8_isWord N (115 : Int32) (112 : Int32) (97 : Int32) (110 : Int32) (0 : Int32) (0 : Int32) M) (fun v7 => if v7 = 0 then (bd (f_X8_isWord N (101 : Int32) (118 : Int32) (101 : Int32) (110 : Int32) (0 : Int32) (0 : Int32) M) (fun v9 => if v9 = 0 then (some (-1 : Int32)) else (some (4 : Int32)))) else (some (3 : Int32)))) else (some (2 : Int32)))) else (some (1 : Int32)))) else (some (0 : Int32)))
set_option maxRecDepth 100000 in
set_option maxHeartbeats 4000000 in
theorem c_X8_kindRead {l : Launch} {D : va_G} {ac : Nat → ClassId} {A : Nat → Prop} {ad : Nat → Nat} {rest : va_W} (N : Nat)   (M : Mem) (r0 : Int32) (hf : f_X8_kindRead N  M = some r0) : CtI l D ac A tabM ad rest yX8_kindRead cX8_kindRead 1 .int 2 [.ref (ad 0)] M r0 M := by
  refine ct_ofI (own := RX8) (by decide +kernel) rfl (Nat.le_of_ble_eq_true rfl) ?_
  intro p e s m args below meth c C
  unfold f_X8_kindRead at hf
  refine a_L (L' := [(0, .ref (ad 0))]) rfl ?_
  refine a_aload_n (pc := 0) C dX8_kindRead_0 0 rfl ?_
  refine a_bipush (pc := 1) (v := 112) C dX8_kindRead_1 (by decide) ?_
  refine a_bipush (pc := 3) (v := 108) C dX8_kindRead_3 (by decide) ?_
  refine a_bipush (pc := 5) (v := 97) C dX8_kindRead_5 (by decide) ?_
  refine a_bipush (pc := 7) (v := 105) C dX8_kindRead_7 (by decide) ?_
  refine a_bipush (pc := 9) (v := 110) C dX8_kindRead_9 (by decide) ?_
  refine a_iconst (pc := 11) (v := 0) C dX8_kindRead_11 (by decide) ?_
  refine a_callV_Ir (pc := 12) (d' := 1) C dX8_kindRead_12 ml_X8_317 mc_X8_isWord mv_X8_isWord tm_0 rfl [.int (112 : Int32), .int (108 : Int32), .int (97 : Int32), .int (105 : Int32), .int (110 : Int32), .int (0 : Int32)] rfl (Nat.le_of_ble_eq_true rfl) (Nat.le_of_ble_eq_true rfl) rfl (Nat.le_of_ble_eq_true rfl) (fun r h => c_X8_isWord N (112 : Int32) (108 : Int32) (97 : Int32) (105 : Int32) (110 : Int32) (0 : Int32)  _  r h) hf (fun v1 hf => ?_)
  refine a_if_eq (pc := 15) 22 C dX8_kindRead_15 (by decide) hf (fun hf => ?_) (fun hf => ?_)
  · refine a_aload_n (pc := 22) C dX8_kindRead_22 0 rfl ?_
    refine a_bipush (pc := 23) (v := 119) C dX8_kindRead_23 (by decide) ?_
    refine a_bipush (pc := 25) (v := 105) C dX8_kindRead_25 (by decide) ?_
    refine a_bipush (pc := 27) (v := 100) C dX8_kindRead_27 (by decide) ?_
    refine a_bipush (pc := 29) (v := 101) C dX8_kindRead_29 (by decide) ?_
    refine a_iconst (pc := 31) (v := 0) C dX8_kindRead_31 (by decide) ?_
    refine a_iconst (pc := 32) (v := 0) C dX8_kindRead_32 (by decide) ?_
    refine a_callV_Ir (pc := 33) (d' := 1) C dX8_kindRead_33 ml_X8_317 mc_X8_isWord mv_X8_isWord tm_0 rfl [.int (119 : Int32), .int (105 : Int32), .int (100 : Int32), .int (101 : Int32), .int (0 : Int32), .int (0 : Int32)] rfl (Nat.le_of_ble_eq_true rfl) (Nat.le_of_ble_eq_true rfl) rfl (Nat.le_of_ble_eq_true rfl) (fun r h => c_X8_isWord N (119 : Int32) (105 : Int32) (100 : Int32) (101 : Int32) (0 : Int32) (0 : Int32)  _  r h) hf (fun v3 hf => ?_)
    refine a_if_eq (pc := 36) 43 C dX8_kindRead_36 (by decide) hf (fun hf => ?_) (fun hf => ?_)
    · refine a_aload_n (pc := 43) C dX8_kindRead_43 0 rfl ?_
      refine a_bipush (pc := 44) (v := 116) C dX8_kindRead_44 (by decide) ?_
      refine a_bipush (pc := 46) (v := 104) C dX8_kindRead_46 (by decide) ?_
      refine a_bipush (pc := 48) (v := 105) C dX8_kindRead_48 (by decide) ?_
      refine a_bipush (pc := 50) (v := 110) C dX8_kindRead_50 (by decide) ?_
      refine a_iconst (pc := 52) (v := 0) C dX8_kindRead_52 (by decide) ?_
      refine a_iconst (pc := 53) (v := 0) C dX8_kindRead_53 (by decide) ?_
      refine a_callV_Ir (pc := 54) (d' := 1) C dX8_kindRead_54 ml_X8_317 mc_X8_isWord mv_X8_isWord tm_0 rfl [.int (116 : Int32), .int (104 : Int32), .int (105 : Int32), .int (110 : Int32), .int (0 : Int32), .int (0 : Int32)] rfl (Nat.le_of_ble_eq_true rfl) (Nat.le_of_ble_eq_true rfl) rfl (Nat.le_of_ble_eq_true rfl) (fun r h => c_X8_isWord N (116 : Int32) (104 : Int32) (105 : Int32) (110 : Int32) (0 : Int32) (0 : Int32)  _  r h) hf (fun v5 hf => ?_)
      refine a_if_eq (pc := 57) 64 C dX8_kindRead_57 (by decide) hf (fun hf => ?_) (fun hf => ?_)
      · refine a_aload_n (pc := 64) C dX8_kindRead_64 0 rfl ?_
        refine a_bipush (pc := 65) (v := 115) C dX8_kindRead_65 (by decide) ?_
        refine a_bipush (pc := 67) (v := 112) C dX8_kindRead_67 (by decide) ?_
        refine a_bipush (pc := 69) (v := 97) C dX8_kindRead_69 (by decide) ?_
        refine a_bipush (pc := 71) (v := 110) C dX8_kindRead_71 (by decide) ?_
        refine a_iconst (pc := 73) (v := 0) C dX8_kindRead_73 (by decide) ?_
        refine a_iconst (pc := 74) (v := 0) C dX8_kindRead_74 (by decide) ?_
        refine a_callV_Ir (pc := 75) (d' := 1) C dX8_kindRead_75 ml_X8_317 mc_X8_isWord mv_X8_isWord tm_0 rfl [.int (115 : Int32), .int (112 : Int32), .int (97 : Int32), .int (110 : Int32), .int (0 : Int32), .int (0 : Int32)] rfl (Nat.le_of_ble_eq_true rfl) (Nat.le_of_ble_eq_true rfl) rfl (Nat.le_of_ble_eq_true rfl) (fun r h => c_X8_isWord N (115 : Int32) (112 : Int32) (97 : Int32) (110 : Int32) (0 : Int32) (0 : Int32)  _  r h) hf (fun v7 hf => ?_)
        refine a_if_eq (pc := 78) 85 C dX8_kindRead_78 (by decide) hf (fun hf => ?_) (fun hf => ?_)
        · refine a_aload_n (pc := 85) C dX8_kindRead_85 0 rfl ?_
          refine a_bipush (pc := 86) (v := 101) C dX8_kindRead_86 (by decide) ?_
          refine a_bipush (pc := 88) (v := 118) C dX8_kindRead_88 (by decide) ?_
          refine a_bipush (pc := 90) (v := 101) C dX8_kindRead_90 (by decide) ?_
          refine a_bipush (pc := 92) (v := 110) C dX8_kindRead_92 (by decide) ?_
          refine a_iconst (pc := 94) (v := 0) C dX8_kindRead_94 (by decide) ?_
          refine a_iconst (pc := 95) (v := 0) C dX8_kindRead_95 (by decide) ?_
          refine a_callV_Ir (pc := 96) (d' := 1) C dX8_kindRead_96 ml_X8_317 mc_X8_isWord mv_X8_isWord tm_0 rfl [.int (101 : Int32), .int (118 : Int32), .int (101 : Int32), .int (110 : Int32), .int (0 : Int32), .int (0 : Int32)] rfl (Nat.le_of_ble_eq_true rfl) (Nat.le_of_ble_eq_true rfl) rfl (Nat.le_of_ble_eq_true rfl) (fun r h => c_X8_isWord N (101 : Int32) (118 : Int32) (101 : Int32) (110 : Int32) (0 : Int32) (0 : Int32)  _  r h) hf (fun v9 hf => ?_)
          refine a_if_eq (pc := 99) 106 C dX8_kindRead_99 (by decide) hf (fun hf => ?_) (fun hf => ?_)
          · refine a_iconst (pc := 106) (v := (-1)) C dX8_kindRead_106 (by decide) ?_
            exact a_iret (pc := 107) C dX8_kindRead_107 (Option.some.inj hf) rfl
          · refine a_iconst (pc := 102) (v := 4) C dX8_kindRead_102 (by decide) ?_
            refine a_goto (pc := 103) 107 C dX8_kindRead_103 (by decide) ?_
            exact a_iret (pc := 107) C dX8_kindRead_107 (Option.some.inj hf) rfl
        · refine a_iconst (pc := 81) (v := 3) C dX8_kindRead_81 (by decide) ?_
          refine a_goto (pc := 82) 107 C dX8_kindRead_82 (by decide) ?_
          exact a_iret (pc := 107) C dX8_kindRead_107 (Option.some.inj hf) rfl
      · refine a_iconst (pc := 60) (v := 2) C dX8_kindRead_60 (by decide) ?_
        refine a_goto (pc := 61) 107 C dX8_kindRead_61 (by decide) ?_
        exact a_iret (pc := 107) C dX8_kindRead_107 (Option.some.inj hf) rfl
    · refine a_iconst (pc := 39) (v := 1) C dX8_kindRead_39 (by decide) ?_
      refine a_goto (pc := 40) 107 C dX8_kindRead_40 (by decide) ?_
      exact a_iret (pc := 107) C dX8_kindRead_107 (Option.some.inj hf) rfl
  · refine a_iconst (pc := 18) (v := 0) C dX8_kindRead_18 (by decide) ?_
    refine a_goto (pc := 19) 107 C dX8_kindRead_19 (by decide) ?_
    exact a_iret (pc := 107) C dX8_kindRead_107 (Option.some.inj hf) rfl
theorem dX8_deal_0 : decode cX8_deal 0 = .ok (.iload_n 1, 1) := by decide +kernel
theorem dX8_deal_1 : decode cX8_deal 1 = .ok (.i2l, 1) := by decide +kernel
theorem dX8_deal_2 : decode cX8_deal 2 = .ok (.lconst 1, 1) := by decide +kernel
theorem dX8_deal_3 : decode cX8_deal 3 = .ok (.ldc2_w 112, 3) := by decide +kernel
theorem dX8_deal_6 : decode cX8_deal 6 = .ok (.invokestatic 98, 3) := by decide +kernel
theorem dX8_deal_9 : decode cX8_deal 9 = .ok (.ifCond .eq 15, 3) := by decide +kernel
theorem dX8_deal_12 : decode cX8_deal 12 = .ok (.iload_n 2, 1) := by decide +kernel
theorem dX8_deal_13 : decode cX8_deal 13 = .ok (.i2l, 1) := by decide +kernel
theorem dX8_deal_14 : decode cX8_deal 14 = .ok (.lconst 0, 1) := by decide +kernel
theorem dX8_deal_15 : decode cX8_deal 15 = .ok (.ldc2_w 348, 3) := by decide +kernel
theorem dX8_deal_18 : decode cX8_deal 18 = .ok (.invokestatic 98, 3) := by decide +kernel
theorem dX8_deal_21 : decode cX8_deal 21 = .ok (.ifCond .ne 6, 3) := by decide +kernel
theorem dX8_deal_24 : decode cX8_deal 24 = .ok (.bipush (-2), 2) := by decide +kernel
theorem dX8_deal_26 : decode cX8_deal 26 = .ok (.ireturn, 1) := by decide +kernel
theorem dX8_deal_27 : decode cX8_deal 27 = .ok (.aload_n 0, 1) := by decide +kernel
theorem dX8_deal_28 : decode cX8_deal 28 = .ok (.iconst 0, 1) := by decide +kernel
theorem dX8_deal_29 : decode cX8_deal 29 = .ok (.putfield 95, 3) := by decide +kernel
theorem dX8_deal_32 : decode cX8_deal 32 = .ok (.aload_n 0, 1) := by decide +kernel
theorem dX8_deal_33 : decode cX8_deal 33 = .ok (.iconst 0, 1) := by decide +kernel
theorem dX8_deal_34 : decode cX8_deal 34 = .ok (.putfield 102, 3) := by decide +kernel
theorem dX8_deal_37 : decode cX8_deal 37 = .ok (.aload_n 0, 1) := by decide +kernel
theorem dX8_deal_38 : decode cX8_deal 38 = .ok (.iload_n 1, 1) := by decide +kernel
theorem dX8_deal_39 : decode cX8_deal 39 = .ok (.invokevirtual 114, 3) := by decide +kernel
theorem dX8_deal_42 : decode cX8_deal 42 = .ok (.iconst 1, 1) := by decide +kernel
theorem dX8_deal_43 : decode cX8_deal 43 = .ok (.istore_n 3, 1) := by decide +kernel
theorem dX8_deal_44 : decode cX8_deal 44 = .ok (.iload_n 3, 1) := by decide +kernel
theorem dX8_deal_45 : decode cX8_deal 45 = .ok (.iload_n 1, 1) := by decide +kernel
theorem dX8_deal_46 : decode cX8_deal 46 = .ok (.if_icmp .ge 72, 3) := by decide +kernel
theorem dX8_deal_49 : decode cX8_deal 49 = .ok (.iconst 0, 1) := by decide +kernel
theorem dX8_deal_50 : decode cX8_deal 50 = .ok (.istore 4, 2) := by decide +kernel
theorem dX8_deal_52 : decode cX8_deal 52 = .ok (.iload 4, 2) := by decide +kernel
theorem dX8_deal_54 : decode cX8_deal 54 = .ok (.iload_n 3, 1) := by decide +kernel
theorem dX8_deal_55 : decode cX8_deal 55 = .ok (.if_icmp .ge 57, 3) := by decide +kernel
theorem dX8_deal_58 : decode cX8_deal 58 = .ok (.aload_n 0, 1) := by decide +kernel
theorem dX8_deal_59 : decode cX8_deal 59 = .ok (.getfield 102, 3) := by decide +kernel
theorem dX8_deal_62 : decode cX8_deal 62 = .ok (.bipush 10, 2) := by decide +kernel
theorem dX8_deal_64 : decode cX8_deal 64 = .ok (.if_icmp .eq 42, 3) := by decide +kernel
theorem dX8_deal_67 : decode cX8_deal 67 = .ok (.aload_n 0, 1) := by decide +kernel
theorem dX8_deal_68 : decode cX8_deal 68 = .ok (.invokevirtual 350, 3) := by decide +kernel
theorem dX8_deal_71 : decode cX8_deal 71 = .ok (.bipush 10, 2) := by decide +kernel
theorem dX8_deal_73 : decode cX8_deal 73 = .ok (.irem, 1) := by decide +kernel
theorem dX8_deal_74 : decode cX8_deal 74 = .ok (.iload_n 2, 1) := by decide +kernel
theorem dX8_deal_75 : decode cX8_deal 75 = .ok (.if_icmp .lt 6, 3) := by decide +kernel
theorem dX8_deal_78 : decode cX8_deal 78 = .ok (.goto 28, 3) := by decide +kernel
theorem dX8_deal_81 : decode cX8_deal 81 = .ok (.aload_n 0, 1) := by decide +kernel
theorem dX8_deal_82 : decode cX8_deal 82 = .ok (.invokevirtual 350, 3) := by decide +kernel
theorem dX8_deal_85 : decode cX8_deal 85 = .ok (.iconst 5, 1) := by decide +kernel
theorem dX8_deal_86 : decode cX8_deal 86 = .ok (.irem, 1) := by decide +kernel
theorem dX8_deal_87 : decode cX8_deal 87 = .ok (.istore 5, 2) := by decide +kernel
theorem dX8_deal_89 : decode cX8_deal 89 = .ok (.aload_n 0, 1) := by decide +kernel
theorem dX8_deal_90 : decode cX8_deal 90 = .ok (.iload 5, 2) := by decide +kernel
theorem dX8_deal_92 : decode cX8_deal 92 = .ok (.iconst 1, 1) := by decide +kernel
theorem dX8_deal_93 : decode cX8_deal 93 = .ok (.aload_n 0, 1) := by decide +kernel
theorem dX8_deal_94 : decode cX8_deal 94 = .ok (.invokevirtual 350, 3) := by decide +kernel
theorem dX8_deal_97 : decode cX8_deal 97 = .ok (.iconst 3, 1) := by decide +kernel
theorem dX8_deal_98 : decode cX8_deal 98 = .ok (.irem, 1) := by decide +kernel
theorem dX8_deal_99 : decode cX8_deal 99 = .ok (.iadd, 1) := by decide +kernel
theorem dX8_deal_100 : decode cX8_deal 100 = .ok (.iload 4, 2) := by decide +kernel
theorem dX8_deal_102 : decode cX8_deal 102 = .ok (.iload_n 3, 1) := by decide +kernel
theorem dX8_deal_103 : decode cX8_deal 103 = .ok (.invokevirtual 130, 3) := by decide +kernel
theorem dX8_deal_106 : decode cX8_deal 106 = .ok (.iinc 4 1, 3) := by decide +kernel
theorem dX8_deal_109 : decode cX8_deal 109 = .ok (.goto (-57), 3) := by decide +kernel
theorem dX8_deal_112 : decode cX8_deal 112 = .ok (.iinc 3 1, 3) := by decide +kernel
theorem dX8_deal_115 : decode cX8_deal 115 = .ok (.goto (-71), 3) := by decide +kernel
theorem dX8_deal_118 : decode cX8_deal 118 = .ok (.aload_n 0, 1) := by decide +kernel
theorem dX8_deal_119 : decode cX8_deal 119 = .ok (.getfield 102, 3) := by decide +kernel
theorem dX8_deal_122 : decode cX8_deal 122 = .ok (.ireturn, 1) := by decide +kernel
def f_X8_deal (N : Nat) (x1 : Int32) (x2 : Int32) (M : Mem) : Option (Int32 × Mem) := bd (f_X8_in N x1.toInt64 (1 : Int64) (6 : Int64) M) (fun v1 => if v1 = 0 then (some ((-2 : Int32), M)) else (bd (f_X8_in N x2.toInt64 (0 : Int64) (10 : Int64) M) (fun v3 => if v3 = 0 then (some ((-2 : Int32), M)) else (nm (setI M 0 0 (0 : Int32)) (fun M5 => nm (setI M5 0 1 (0 : Int32)) (fun M6 => bd (f_X8_pointsCome N x1 M6) (fun M8 => lp (fun (k44 : (Int32 × Mem) → Option (Int32 × Mem)) (a44 : Int32 × Mem) => if x1 ≤ a44.1 then (some ((a44.2.1 0 1), a44.2)) else (lp (fun (k52 : (Int32 × Mem) → Option (Int32 × Mem)) (a52 : Int32 × Mem) => if a44.1 ≤ a52.1 then (nm (a44.1 + (1 : Int32)) (fun v9 => k44 (v9, a52.2))) else (jn (fun (a106 : Mem) => nm (a52.1 + (1 : Int32)) (fun v10 => k52 (v10, a106))) (fun (k106 : Mem → Option (Int32 × Mem)) => if (a52.2.1 0 1) = (10 : Int32) then (k106 a52.2) else (bd (f_X8_draw N  a52.2) (fun w13 => ck (¬ (10 : Int32) = 0) (if (w13.1 - w13.1 / (10 : Int32) * (10 : Int32)) < x2 then (bd (f_X8_draw N  w13.2) (fun w16 => ck (¬ (5 : Int32) = 0) (nm (w16.1 - w16.1 / (5 : Int32) * (5 : Int32)) (fun v17 => bd (f_X8_draw N  w16.2) (fun w20 => ck (¬ (3 : Int32) = 0) (bd (f_X8_lineComes N v17 ((1 : Int32) + (w20.1 - w20.1 / (3 : Int32) * (3 : Int32))) a52.1 a44.1 w20.2) (fun M22 => k106 M22))))))) else (k106 w13.2))))))) N ((0 : Int32), a44.2))) N ((1 : Int32), M8))))))))
set_option maxRecDepth 100000 in
set_option maxHeartbeats 4000000 in
theorem c_X8_deal {l : Launch} {D : va_G} {ac : Nat → ClassId} {A : Nat → Prop} {ad : Nat → Nat} {rest : va_W} (N : Nat) (x1 : Int32) (x2 : Int32)  (M : Mem) (r0 : Int32) (M0 : Mem) (hf : f_X8_deal N x1 x2 M = some (r0, M0)) : CtI l D ac A tabM ad rest yX8_deal cX8_deal 6 .int 2 [.ref (ad 0), .int x1, .int x2] M r0 M0 := by
  refine ct_ofI (own := RX8) (by decide +kernel) rfl (Nat.le_of_ble_eq_true rfl) ?_
  intro p e s m args below meth c C
  unfold f_X8_deal at hf
  refine a_L (L' := [(0, .ref (ad 0)), (1, .int x1), (2, .int x2)]) rfl ?_
  refine a_iload_n (pc := 0) C dX8_deal_0 1 rfl ?_
  refine a_i2l (pc := 1) C dX8_deal_1 ?_
  refine a_lconst (pc := 2) (v := 1) C dX8_deal_2 (by decide) ?_
  refine a_ldc2 (pc := 3) C dX8_deal_3 cj_X8_112 ?_
  refine a_callS_Ir (pc := 6) (d' := 1) C dX8_deal_6 ml_X8_98 mc_X8_in ms_X8_in [.long x1.toInt64, .long (1 : Int64), .long (6 : Int64)] rfl (Nat.le_of_ble_eq_true rfl) (Nat.le_of_ble_eq_true rfl) rfl (Nat.le_of_ble_eq_true rfl) (fun r h => c_X8_in N x1.toInt64 (1 : Int64) (6 : Int64)  _  r h) hf (fun v1 hf => ?_)
  refine a_if_eq (pc := 9) 24 C dX8_deal_9 (by decide) hf (fun hf => ?_) (fun hf => ?_)
  · refine a_bipush (pc := 24) (v := (-2)) C dX8_deal_24 (by decide) ?_
    exact a_iret (pc := 26) C dX8_deal_26 (so_1 hf) (so_2 hf)
  · refine a_iload_n (pc := 12) C dX8_deal_12 2 rfl ?_
    refine a_i2l (pc := 13) C dX8_deal_13 ?_
    refine a_lconst (pc := 14) (v := 0) C dX8_deal_14 (by decide) ?_
    refine a_ldc2 (pc := 15) C dX8_deal_15 cj_X8_348 ?_
    refine a_callS_Ir (pc := 18) (d' := 1) C dX8_deal_18 ml_X8_98 mc_X8_in ms_X8_in [.long x2.toInt64, .long (0 : Int64), .long (10 : Int64)] rfl (Nat.le_of_ble_eq_true rfl) (Nat.le_of_ble_eq_true rfl) rfl (Nat.le_of_ble_eq_true rfl) (fun r h => c_X8_in N x2.toInt64 (0 : Int64) (10 : Int64)  _  r h) hf (fun v3 hf => ?_)
    refine a_if_ne (pc := 21) 27 C dX8_deal_21 (by decide) hf (fun hf => ?_) (fun hf => ?_)
    · refine a_aload_n (pc := 27) C dX8_deal_27 0 rfl ?_
      refine a_iconst (pc := 28) (v := 0) C dX8_deal_28 (by decide) ?_
      refine a_putI (pc := 29) C dX8_deal_29 fl_X8_95 tm_0 rfl hf (fun M5 hf => ?_)
      refine a_aload_n (pc := 32) C dX8_deal_32 0 rfl ?_
      refine a_iconst (pc := 33) (v := 0) C dX8_deal_33 (by decide) ?_
      refine a_putI (pc := 34) C dX8_deal_34 fl_X8_102 tm_0 rfl hf (fun M6 hf => ?_)
      refine a_aload_n (pc := 37) C dX8_deal_37 0 rfl ?_
      refine a_iload_n (pc := 38) C dX8_deal_38 1 rfl ?_
      refine a_callV_V (pc := 39) (d' := 1) C dX8_deal_39 ml_X8_114 mc_X8_pointsCome mv_X8_pointsCome tm_0 rfl [.int x1] rfl (Nat.le_of_ble_eq_true rfl) (Nat.le_of_ble_eq_true rfl) rfl (Nat.le_of_ble_eq_true rfl) (fun M' h => c_X8_pointsCome N x1  _  M' h) hf (fun M8 hf => ?_)
      refine a_iconst (pc := 42) (v := 1) C dX8_deal_42 (by decide) ?_
      refine a_istore_n (pc := 43) [(3, .int (1 : Int32)), (0, .ref (ad 0)), (1, .int x1), (2, .int x2)] C dX8_deal_43 (by decide) rfl ?_
      refine a_sub [1, 2, 3, 0] rfl ?_
      refine a_lp 44 (fun a44 : Int32 × Mem => [(0, .ref (ad 0)), (1, .int x1), (2, .int x2), (3, .int a44.1)]) (fun a44 : Int32 × Mem => []) (fun a44 : Int32 × Mem => a44.2) (fun k44 a44 hk44 hf => ?_) N ((1 : Int32), M8) hf
      refine a_iload_n (pc := 44) C dX8_deal_44 3 rfl ?_
      refine a_iload_n (pc := 45) C dX8_deal_45 1 rfl ?_
      refine a_icmp_ge (pc := 46) 118 C dX8_deal_46 (by decide) hf (fun hf => ?_) (fun hf => ?_)
      · refine a_aload_n (pc := 118) C dX8_deal_118 0 rfl ?_
        refine a_getI (pc := 119) C dX8_deal_119 fl_X8_102 tm_0 rfl ?_
        exact a_iret (pc := 122) C dX8_deal_122 (so_1 hf) (so_2 hf)
      · refine a_iconst (pc := 49) (v := 0) C dX8_deal_49 (by decide) ?_
        refine a_istore (pc := 50) [(4, .int (0 : Int32)), (0, .ref (ad 0)), (1, .int x1), (2, .int x2), (3, .int a44.1)] C dX8_deal_50 (by decide) rfl ?_
        refine a_sub [1, 2, 3, 4, 0] rfl ?_
        refine a_lp 52 (fun a52 : Int32 × Mem => [(0, .ref (ad 0)), (1, .int x1), (2, .int x2), (3, .int a44.1), (4, .int a52.1)]) (fun a52 : Int32 × Mem => []) (fun a52 : Int32 × Mem => a52.2) (fun k52 a52 hk52 hf => ?_) N ((0 : Int32), a44.2) hf
        refine a_iload (pc := 52) C dX8_deal_52 4 rfl ?_
        refine a_iload_n (pc := 54) C dX8_deal_54 3 rfl ?_
        refine a_icmp_ge (pc := 55) 112 C dX8_deal_55 (by decide) hf (fun hf => ?_) (fun hf => ?_)
        · refine a_iinc (pc := 112) (v := 1) (fun v9 => [(3, .int v9), (0, .ref (ad 0)), (1, .int x1), (2, .int x2), (4, .int a52.1)]) C dX8_deal_112 3 rfl (by decide) (by decide) (fun _ => rfl) hf (fun v9 hf => ?_)
          refine a_goto (pc := 115) 44 C dX8_deal_115 (by decide) ?_
          exact a_sub [1, 2, 3, 0] rfl (hk44 (v9, a52.2) hf)
        · refine a_aload_n (pc := 58) C dX8_deal_58 0 rfl ?_
          refine a_getI (pc := 59) C dX8_deal_59 fl_X8_102 tm_0 rfl ?_
          refine a_bipush (pc := 62) (v := 10) C dX8_deal_62 (by decide) ?_
          refine a_jn 106 (fun a106 : Mem => [(0, .ref (ad 0)), (1, .int x1), (2, .int x2), (3, .int a44.1), (4, .int a52.1)]) (fun a106 : Mem => []) (fun a106 : Mem => a106) hf (fun a106 hf => ?_) (fun k106 hk106 hf => ?_)
          · refine a_iinc (pc := 106) (v := 1) (fun v10 => [(4, .int v10), (0, .ref (ad 0)), (1, .int x1), (2, .int x2), (3, .int a44.1)]) C dX8_deal_106 4 rfl (by decide) (by decide) (fun _ => rfl) hf (fun v10 hf => ?_)
            refine a_goto (pc := 109) 52 C dX8_deal_109 (by decide) ?_
            exact a_sub [1, 2, 3, 4, 0] rfl (hk52 (v10, a106) hf)
          · refine a_icmp_eq (pc := 64) 106 C dX8_deal_64 (by decide) hf (fun hf => ?_) (fun hf => ?_)
            · exact a_sub [0, 1, 2, 3, 4] rfl (hk106 a52.2 hf)
            · refine a_aload_n (pc := 67) C dX8_deal_67 0 rfl ?_
              refine a_callV_I (pc := 68) (d' := 1) C dX8_deal_68 ml_X8_350 mc_X8_draw mv_X8_draw tm_0 rfl [] rfl (Nat.le_of_ble_eq_true rfl) (Nat.le_of_ble_eq_true rfl) rfl (Nat.le_of_ble_eq_true rfl) (fun r M' h => c_X8_draw N   _  r M' h) hf (fun v11 M12 hf => ?_)
              refine a_bipush (pc := 71) (v := 10) C dX8_deal_71 (by decide) ?_
              refine a_irem (pc := 73) C dX8_deal_73 hf (fun hf => ?_)
              refine a_iload_n (pc := 74) C dX8_deal_74 2 rfl ?_
              refine a_icmp_lt (pc := 75) 81 C dX8_deal_75 (by decide) hf (fun hf => ?_) (fun hf => ?_)
              · refine a_aload_n (pc := 81) C dX8_deal_81 0 rfl ?_
                refine a_callV_I (pc := 82) (d' := 1) C dX8_deal_82 ml_X8_350 mc_X8_draw mv_X8_draw tm_0 rfl [] rfl (Nat.le_of_ble_eq_true rfl) (Nat.le_of_ble_eq_true rfl) rfl (Nat.le_of_ble_eq_true rfl) (fun r M' h => c_X8_draw N   _  r M' h) hf (fun v14 M15 hf => ?_)
                refine a_iconst (pc := 85) (v := 5) C dX8_deal_85 (by decide) ?_
                refine a_irem (pc := 86) C dX8_deal_86 hf (fun hf => ?_)
                refine a_nmi hf (fun v17 hf => ?_)
                refine a_istore (pc := 87) [(5, .int v17), (0, .ref (ad 0)), (1, .int x1), (2, .int x2), (3, .int a44.1), (4, .int a52.1)] C dX8_deal_87 (by decide) rfl ?_
                refine a_aload_n (pc := 89) C dX8_deal_89 1 rfl ?_
                refine a_iload (pc := 90) C dX8_deal_90 0 rfl ?_
                refine a_iconst (pc := 92) (v := 1) C dX8_deal_92 (by decide) ?_
                refine a_aload_n (pc := 93) C dX8_deal_93 1 rfl ?_
                refine a_callV_I (pc := 94) (d' := 1) C dX8_deal_94 ml_X8_350 mc_X8_draw mv_X8_draw tm_0 rfl [] rfl (Nat.le_of_ble_eq_true rfl) (Nat.le_of_ble_eq_true rfl) rfl (Nat.le_of_ble_eq_true rfl) (fun r M' h => c_X8_draw N   _  r M' h) hf (fun v18 M19 hf => ?_)
                refine a_iconst (pc := 97) (v := 3) C dX8_deal_97 (by decide) ?_
                refine a_irem (pc := 98) C dX8_deal_98 hf (fun hf => ?_)
                refine a_iadd (pc := 99) C dX8_deal_99 ?_
                refine a_iload (pc := 100) C dX8_deal_100 5 rfl ?_
                refine a_iload_n (pc := 102) C dX8_deal_102 4 rfl ?_
                refine a_callV_V (pc := 103) (d' := 1) C dX8_deal_103 ml_X8_130 mc_X8_lineComes mv_X8_lineComes tm_0 rfl [.int v17, .int ((1 : Int32) + (v18 - v18 / (3 : Int32) * (3 : Int32))), .int a52.1, .int a44.1] rfl (Nat.le_of_ble_eq_true rfl) (Nat.le_of_ble_eq_true rfl) rfl (Nat.le_of_ble_eq_true rfl) (fun M' h => c_X8_lineComes N v17 ((1 : Int32) + (v18 - v18 / (3 : Int32) * (3 : Int32))) a52.1 a44.1  _  M' h) hf (fun M22 hf => ?_)
                exact a_sub [1, 2, 3, 4, 5] rfl (hk106 M22 hf)
              · refine a_goto (pc := 78) 106 C dX8_deal_78 (by decide) ?_
                exact a_sub [0, 1, 2, 3, 4] rfl (hk106 M12 hf)
    · refine a_bipush (pc := 24) (v := (-2)) C dX8_deal_24 (by decide) ?_
      exact a_iret (pc := 26) C dX8_deal_26 (so_1 hf) (so_2 hf)
theorem dX8_isSheet_0 : decode cX8_isSheet 0 = .ok (.iload_n 0, 1) := by decide +kernel
theorem dX8_isSheet_1 : decode cX8_isSheet 1 = .ok (.i2l, 1) := by decide +kernel
theorem dX8_isSheet_2 : decode cX8_isSheet 2 = .ok (.lconst 0, 1) := by decide +kernel
theorem dX8_isSheet_3 : decode cX8_isSheet 3 = .ok (.ldc2_w 120, 3) := by decide +kernel
theorem dX8_isSheet_6 : decode cX8_isSheet 6 = .ok (.invokestatic 98, 3) := by decide +kernel
theorem dX8_isSheet_9 : decode cX8_isSheet 9 = .ok (.ireturn, 1) := by decide +kernel
def f_X8_isSheet (N : Nat) (x0 : Int32) (M : Mem) : Option (Int32) := bd (f_X8_in N x0.toInt64 (0 : Int64) (3 : Int64) M) (fun v1 => ck (v1 = 0 ∨ v1 = 1) (some v1))
set_option maxRecDepth 100000 in
set_option maxHeartbeats 4000000 in
theorem c_X8_isSheet {l : Launch} {D : va_G} {ac : Nat → ClassId} {A : Nat → Prop} {ad : Nat → Nat} {rest : va_W} (N : Nat) (x0 : Int32)  (M : Mem) (r0 : Int32) (hf : f_X8_isSheet N x0 M = some r0) : CtI l D ac A tabM ad rest yX8_isSheet cX8_isSheet 1 .boolean 2 [.int x0] M r0 M := by
  refine ct_ofI (own := RX8) (by decide +kernel) rfl (Nat.le_of_ble_eq_true rfl) ?_
  intro p e s m args below meth c C
  unfold f_X8_isSheet at hf
  refine a_L (L' := [(0, .int x0)]) rfl ?_
  refine a_iload_n (pc := 0) C dX8_isSheet_0 0 rfl ?_
  refine a_i2l (pc := 1) C dX8_isSheet_1 ?_
  refine a_lconst (pc := 2) (v := 0) C dX8_isSheet_2 (by decide) ?_
  refine a_ldc2 (pc := 3) C dX8_isSheet_3 cj_X8_120 ?_
  refine a_callS_Ir (pc := 6) (d' := 1) C dX8_isSheet_6 ml_X8_98 mc_X8_in ms_X8_in [.long x0.toInt64, .long (0 : Int64), .long (3 : Int64)] rfl (Nat.le_of_ble_eq_true rfl) (Nat.le_of_ble_eq_true rfl) rfl (Nat.le_of_ble_eq_true rfl) (fun r h => c_X8_in N x0.toInt64 (0 : Int64) (3 : Int64)  _  r h) hf (fun v1 hf => ?_)
  exact a_zret (pc := 9) C dX8_isSheet_9 (ck_some hf).1 (Option.some.inj (ck_some hf).2) rfl
theorem dX8_image_0 : decode cX8_image 0 = .ok (.aload_n 0, 1) := by decide +kernel
theorem dX8_image_1 : decode cX8_image 1 = .ok (.iconst 0, 1) := by decide +kernel
theorem dX8_image_2 : decode cX8_image 2 = .ok (.invokevirtual 338, 3) := by decide +kernel
theorem dX8_image_5 : decode cX8_image 5 = .ok (.aload_n 0, 1) := by decide +kernel
theorem dX8_image_6 : decode cX8_image 6 = .ok (.iconst 1, 1) := by decide +kernel
theorem dX8_image_7 : decode cX8_image 7 = .ok (.putfield 358, 3) := by decide +kernel
theorem dX8_image_10 : decode cX8_image 10 = .ok (.aload_n 0, 1) := by decide +kernel
theorem dX8_image_11 : decode cX8_image 11 = .ok (.getfield 102, 3) := by decide +kernel
theorem dX8_image_14 : decode cX8_image 14 = .ok (.ireturn, 1) := by decide +kernel
def f_X8_image (N : Nat)  (M : Mem) : Option (Int32 × Mem) := bd (f_X8_keeps N (0 : Int32) M) (fun M2 => ck ((1 : Int32) = 0 ∨ (1 : Int32) = 1) (nm (setI M2 0 43 (1 : Int32)) (fun M3 => some ((M3.1 0 1), M3))))
set_option maxRecDepth 100000 in
set_option maxHeartbeats 4000000 in
theorem c_X8_image {l : Launch} {D : va_G} {ac : Nat → ClassId} {A : Nat → Prop} {ad : Nat → Nat} {rest : va_W} (N : Nat)   (M : Mem) (r0 : Int32) (M0 : Mem) (hf : f_X8_image N  M = some (r0, M0)) : CtI l D ac A tabM ad rest yX8_image cX8_image 1 .int 2 [.ref (ad 0)] M r0 M0 := by
  refine ct_ofI (own := RX8) (by decide +kernel) rfl (Nat.le_of_ble_eq_true rfl) ?_
  intro p e s m args below meth c C
  unfold f_X8_image at hf
  refine a_L (L' := [(0, .ref (ad 0))]) rfl ?_
  refine a_aload_n (pc := 0) C dX8_image_0 0 rfl ?_
  refine a_iconst (pc := 1) (v := 0) C dX8_image_1 (by decide) ?_
  refine a_callV_V (pc := 2) (d' := 1) C dX8_image_2 ml_X8_338 mc_X8_keeps mv_X8_keeps tm_0 rfl [.int (0 : Int32)] rfl (Nat.le_of_ble_eq_true rfl) (Nat.le_of_ble_eq_true rfl) rfl (Nat.le_of_ble_eq_true rfl) (fun M' h => c_X8_keeps N (0 : Int32)  _  M' h) hf (fun M2 hf => ?_)
  refine a_aload_n (pc := 5) C dX8_image_5 0 rfl ?_
  refine a_iconst (pc := 6) (v := 1) C dX8_image_6 (by decide) ?_
  refine a_putZ (pc := 7) C dX8_image_7 fl_X8_358 tm_0 rfl hf (fun M3 hf => ?_)
  refine a_aload_n (pc := 10) C dX8_image_10 0 rfl ?_
  refine a_getI (pc := 11) C dX8_image_11 fl_X8_102 tm_0 rfl ?_
  exact a_iret (pc := 14) C dX8_image_14 (so_1 hf) (so_2 hf)
