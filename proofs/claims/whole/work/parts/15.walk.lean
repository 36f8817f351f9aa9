theorem dX8_back_0 : decode cX8_back 0 = .ok (.aload_n 0, 1) := by decide +kernel
theorem dX8_back_1 : decode cX8_back 1 = .ok (.getfield 358, 3) := by decide +kernel
theorem dX8_back_4 : decode cX8_back 4 = .ok (.ifCond .ne 6, 3) := by decide +kernel
theorem dX8_back_7 : decode cX8_back 7 = .ok (.bipush (-3), 2) := by decide +kernel
theorem dX8_back_9 : decode cX8_back 9 = .ok (.ireturn, 1) := by decide +kernel
theorem dX8_back_10 : decode cX8_back 10 = .ok (.aload_n 0, 1) := by decide +kernel
theorem dX8_back_11 : decode cX8_back 11 = .ok (.iconst 0, 1) := by decide +kernel
theorem dX8_back_12 : decode cX8_back 12 = .ok (.invokevirtual 344, 3) := by decide +kernel
theorem dX8_back_15 : decode cX8_back 15 = .ok (.aload_n 0, 1) := by decide +kernel
theorem dX8_back_16 : decode cX8_back 16 = .ok (.getfield 102, 3) := by decide +kernel
theorem dX8_back_19 : decode cX8_back 19 = .ok (.ireturn, 1) := by decide +kernel
def f_X8_back (N : Nat)  (M : Mem) : Option (Int32 × Mem) := if (M.1 0 43) = 0 then (some ((-3 : Int32), M)) else (bd (f_X8_putsBack N (0 : Int32) M) (fun M2 => some ((M2.1 0 1), M2)))
set_option maxRecDepth 100000 in
set_option maxHeartbeats 4000000 in
theorem c_X8_back {l : Launch} {D : va_G} {ac : Nat → ClassId} {A : Nat → Prop} {ad : Nat → Nat} {rest : va_W} (N : Nat)   (M : Mem) (r0 : Int32) (M0 : Mem) (hf : f_X8_back N  M = some (r0, M0)) : CtI l D ac A tabM ad rest yX8_back cX8_back 1 .int 2 [.ref (ad 0)] M r0 M0 := by
  refine ct_ofI (own := RX8) (by decide +kernel) rfl (Nat.le_of_ble_eq_true rfl) ?_
  intro p e s m args below meth c C
  unfold f_X8_back at hf
  refine a_L (L' := [(0, .ref (ad 0))]) rfl ?_
  refine a_aload_n (pc := 0) C dX8_back_0 0 rfl ?_
  refine a_getI (pc := 1) C dX8_back_1 fl_X8_358 tm_0 rfl ?_
  refine a_if_ne (pc := 4) 10 C dX8_back_4 (by decide) hf (fun hf => ?_) (fun hf => ?_)
  · refine a_aload_n (pc := 10) C dX8_back_10 0 rfl ?_
    refine a_iconst (pc := 11) (v := 0) C dX8_back_11 (by decide) ?_
    refine a_callV_V (pc := 12) (d' := 1) C dX8_back_12 ml_X8_344 mc_X8_putsBack mv_X8_putsBack tm_0 rfl [.int (0 : Int32)] rfl (Nat.le_of_ble_eq_true rfl) (Nat.le_of_ble_eq_true rfl) rfl (Nat.le_of_ble_eq_true rfl) (fun M' h => c_X8_putsBack N (0 : Int32)  _  M' h) hf (fun M2 hf => ?_)
    refine a_aload_n (pc := 15) C dX8_back_15 0 rfl ?_
    refine a_getI (pc := 16) C dX8_back_16 fl_X8_102 tm_0 rfl ?_
    exact a_iret (pc := 19) C dX8_back_19 (so_1 hf) (so_2 hf)
  · refine a_bipush (pc := 7) (v := (-3)) C dX8_back_7 (by decide) ?_
    exact a_iret (pc := 9) C dX8_back_9 (so_1 hf) (so_2 hf)
theorem dX1_allGaps_0 : decode cX1_allGaps 0 = .ok (.iconst 0, 1) := by decide +kernel
theorem dX1_allGaps_1 : decode cX1_allGaps 1 = .ok (.istore_n 1, 1) := by decide +kernel
theorem dX1_allGaps_2 : decode cX1_allGaps 2 = .ok (.iconst 0, 1) := by decide +kernel
theorem dX1_allGaps_3 : decode cX1_allGaps 3 = .ok (.istore_n 2, 1) := by decide +kernel
theorem dX1_allGaps_4 : decode cX1_allGaps 4 = .ok (.iload_n 2, 1) := by decide +kernel
theorem dX1_allGaps_5 : decode cX1_allGaps 5 = .ok (.aload_n 0, 1) := by decide +kernel
theorem dX1_allGaps_6 : decode cX1_allGaps 6 = .ok (.getfield 35, 3) := by decide +kernel
theorem dX1_allGaps_9 : decode cX1_allGaps 9 = .ok (.if_icmp .ge 17, 3) := by decide +kernel
theorem dX1_allGaps_12 : decode cX1_allGaps 12 = .ok (.iload_n 1, 1) := by decide +kernel
theorem dX1_allGaps_13 : decode cX1_allGaps 13 = .ok (.aload_n 0, 1) := by decide +kernel
theorem dX1_allGaps_14 : decode cX1_allGaps 14 = .ok (.iload_n 2, 1) := by decide +kernel
theorem dX1_allGaps_15 : decode cX1_allGaps 15 = .ok (.invokevirtual 47, 3) := by decide +kernel
theorem dX1_allGaps_18 : decode cX1_allGaps 18 = .ok (.iadd, 1) := by decide +kernel
theorem dX1_allGaps_19 : decode cX1_allGaps 19 = .ok (.istore_n 1, 1) := by decide +kernel
theorem dX1_allGaps_20 : decode cX1_allGaps 20 = .ok (.iinc 2 1, 3) := by decide +kernel
theorem dX1_allGaps_23 : decode cX1_allGaps 23 = .ok (.goto (-19), 3) := by decide +kernel
theorem dX1_allGaps_26 : decode cX1_allGaps 26 = .ok (.iload_n 1, 1) := by decide +kernel
theorem dX1_allGaps_27 : decode cX1_allGaps 27 = .ok (.ireturn, 1) := by decide +kernel
def f_X1_allGaps (N : Nat) (c0 : Nat) (M : Mem) : Option (Int32) := lp (fun (k4 : (Int32 × Int32) → Option (Int32)) (a4 : Int32 × Int32) => if (M.1 c0 1) ≤ a4.2 then (some a4.1) else (bd (f_X1_gapOf N c0 a4.2 M) (fun v1 => nm (a4.1 + v1) (fun v3 => nm (a4.2 + (1 : Int32)) (fun v4 => k4 (v3, v4)))))) N ((0 : Int32), (0 : Int32))
set_option maxRecDepth 100000 in
set_option maxHeartbeats 4000000 in
theorem c_X1_allGaps {l : Launch} {D : va_G} {ac : Nat → ClassId} {A : Nat → Prop} {ad : Nat → Nat} {rest : va_W} (N : Nat) (c0 : Nat) (hc0 : NetAt tabX c0) (M : Mem) (r0 : Int32) (hf : f_X1_allGaps N c0 M = some r0) : CtI l D ac A tabX ad rest yX1_allGaps cX1_allGaps 3 .int 3 [.ref (ad c0)] M r0 M := by
  refine ct_ofI (own := RX1) (by decide +kernel) rfl (Nat.le_of_ble_eq_true rfl) ?_
  intro p e s m args below meth c C
  unfold f_X1_allGaps at hf
  refine a_L (L' := [(0, .ref (ad c0))]) rfl ?_
  refine a_iconst (pc := 0) (v := 0) C dX1_allGaps_0 (by decide) ?_
  refine a_istore_n (pc := 1) [(1, .int (0 : Int32)), (0, .ref (ad c0))] C dX1_allGaps_1 (by decide) rfl ?_
  refine a_iconst (pc := 2) (v := 0) C dX1_allGaps_2 (by decide) ?_
  refine a_istore_n (pc := 3) [(2, .int (0 : Int32)), (1, .int (0 : Int32)), (0, .ref (ad c0))] C dX1_allGaps_3 (by decide) rfl ?_
  refine a_sub [2, 1, 0] rfl ?_
  refine a_lp 4 (fun a4 : Int32 × Int32 => [(0, .ref (ad c0)), (1, .int a4.1), (2, .int a4.2)]) (fun a4 : Int32 × Int32 => []) (fun a4 : Int32 × Int32 => M) (fun k4 a4 hk4 hf => ?_) N ((0 : Int32), (0 : Int32)) hf
  refine a_iload_n (pc := 4) C dX1_allGaps_4 2 rfl ?_
  refine a_aload_n (pc := 5) C dX1_allGaps_5 0 rfl ?_
  refine a_getI (pc := 6) C dX1_allGaps_6 fl_X1_35 hc0.1 rfl ?_
  refine a_icmp_ge (pc := 9) 26 C dX1_allGaps_9 (by decide) hf (fun hf => ?_) (fun hf => ?_)
  · refine a_iload_n (pc := 26) C dX1_allGaps_26 1 rfl ?_
    exact a_iret (pc := 27) C dX1_allGaps_27 (Option.some.inj hf) rfl
  · refine a_iload_n (pc := 12) C dX1_allGaps_12 1 rfl ?_
    refine a_aload_n (pc := 13) C dX1_allGaps_13 0 rfl ?_
    refine a_iload_n (pc := 14) C dX1_allGaps_14 2 rfl ?_
    refine a_callV_Ir (pc := 15) (d' := 2) C dX1_allGaps_15 ml_X1_47 mc_X1_gapOf mv_X1_gapOf hc0.1 rfl [.int a4.2] rfl (Nat.le_of_ble_eq_true rfl) (Nat.le_of_ble_eq_true rfl) rfl (Nat.le_of_ble_eq_true rfl) (fun r h => c_X1_gapOf N c0 a4.2 hc0 _  r h) hf (fun v1 hf => ?_)
    refine a_iadd (pc := 18) C dX1_allGaps_18 ?_
    refine a_nmi hf (fun v3 hf => ?_)
    refine a_istore_n (pc := 19) [(1, .int v3), (0, .ref (ad c0)), (2, .int a4.2)] C dX1_allGaps_19 (by decide) rfl ?_
    refine a_iinc (pc := 20) (v := 1) (fun v4 => [(2, .int v4), (1, .int v3), (0, .ref (ad c0))]) C dX1_allGaps_20 2 rfl (by decide) (by decide) (fun _ => rfl) hf (fun v4 hf => ?_)
    refine a_goto (pc := 23) 4 C dX1_allGaps_23 (by decide) ?_
    exact a_sub [2, 1, 0] rfl (hk4 (v3, v4) hf)
theorem dX2_prepare_0 : decode cX2_prepare 0 = .ok (.aload_n 0, 1) := by decide +kernel
theorem dX2_prepare_1 : decode cX2_prepare 1 = .ok (.iload_n 2, 1) := by decide +kernel
theorem dX2_prepare_2 : decode cX2_prepare 2 = .ok (.putfield 25, 3) := by decide +kernel
theorem dX2_prepare_5 : decode cX2_prepare 5 = .ok (.aload_n 0, 1) := by decide +kernel
theorem dX2_prepare_6 : decode cX2_prepare 6 = .ok (.iload_n 3, 1) := by decide +kernel
theorem dX2_prepare_7 : decode cX2_prepare 7 = .ok (.putfield 29, 3) := by decide +kernel
theorem dX2_prepare_10 : decode cX2_prepare 10 = .ok (.lconst 1, 1) := by decide +kernel
theorem dX2_prepare_11 : decode cX2_prepare 11 = .ok (.aload_n 0, 1) := by decide +kernel
theorem dX2_prepare_12 : decode cX2_prepare 12 = .ok (.getfield 25, 3) := by decide +kernel
theorem dX2_prepare_15 : decode cX2_prepare 15 = .ok (.lshl, 1) := by decide +kernel
theorem dX2_prepare_16 : decode cX2_prepare 16 = .ok (.lconst 1, 1) := by decide +kernel
theorem dX2_prepare_17 : decode cX2_prepare 17 = .ok (.lsub, 1) := by decide +kernel
theorem dX2_prepare_18 : decode cX2_prepare 18 = .ok (.lstore 5, 2) := by decide +kernel
theorem dX2_prepare_20 : decode cX2_prepare 20 = .ok (.iconst 0, 1) := by decide +kernel
theorem dX2_prepare_21 : decode cX2_prepare 21 = .ok (.istore 7, 2) := by decide +kernel
theorem dX2_prepare_23 : decode cX2_prepare 23 = .ok (.iload 7, 2) := by decide +kernel
theorem dX2_prepare_25 : decode cX2_prepare 25 = .ok (.aload_n 1, 1) := by decide +kernel
theorem dX2_prepare_26 : decode cX2_prepare 26 = .ok (.getfield 32, 3) := by decide +kernel
theorem dX2_prepare_29 : decode cX2_prepare 29 = .ok (.if_icmp .ge 37, 3) := by decide +kernel
theorem dX2_prepare_32 : decode cX2_prepare 32 = .ok (.aload_n 0, 1) := by decide +kernel
theorem dX2_prepare_33 : decode cX2_prepare 33 = .ok (.getfield 21, 3) := by decide +kernel
theorem dX2_prepare_36 : decode cX2_prepare 36 = .ok (.iload 7, 2) := by decide +kernel
theorem dX2_prepare_38 : decode cX2_prepare 38 = .ok (.iload 4, 2) := by decide +kernel
theorem dX2_prepare_40 : decode cX2_prepare 40 = .ok (.iconst 1, 1) := by decide +kernel
theorem dX2_prepare_41 : decode cX2_prepare 41 = .ok (.if_icmp .ne 16, 3) := by decide +kernel
theorem dX2_prepare_44 : decode cX2_prepare 44 = .ok (.lload 5, 2) := by decide +kernel
theorem dX2_prepare_46 : decode cX2_prepare 46 = .ok (.aload_n 1, 1) := by decide +kernel
theorem dX2_prepare_47 : decode cX2_prepare 47 = .ok (.getfield 37, 3) := by decide +kernel
theorem dX2_prepare_50 : decode cX2_prepare 50 = .ok (.iload 7, 2) := by decide +kernel
theorem dX2_prepare_52 : decode cX2_prepare 52 = .ok (.laload, 1) := by decide +kernel
theorem dX2_prepare_53 : decode cX2_prepare 53 = .ok (.land, 1) := by decide +kernel
theorem dX2_prepare_54 : decode cX2_prepare 54 = .ok (.goto 5, 3) := by decide +kernel
theorem dX2_prepare_57 : decode cX2_prepare 57 = .ok (.lload 5, 2) := by decide +kernel
theorem dX2_prepare_59 : decode cX2_prepare 59 = .ok (.lastore, 1) := by decide +kernel
theorem dX2_prepare_60 : decode cX2_prepare 60 = .ok (.iinc 7 1, 3) := by decide +kernel
theorem dX2_prepare_63 : decode cX2_prepare 63 = .ok (.goto (-40), 3) := by decide +kernel
theorem dX2_prepare_66 : decode cX2_prepare 66 = .ok (.aload_n 0, 1) := by decide +kernel
theorem dX2_prepare_67 : decode cX2_prepare 67 = .ok (.iconst 0, 1) := by decide +kernel
theorem dX2_prepare_68 : decode cX2_prepare 68 = .ok (.putfield 40, 3) := by decide +kernel
theorem dX2_prepare_71 : decode cX2_prepare 71 = .ok (.iconst 0, 1) := by decide +kernel
theorem dX2_prepare_72 : decode cX2_prepare 72 = .ok (.istore 7, 2) := by decide +kernel
theorem dX2_prepare_74 : decode cX2_prepare 74 = .ok (.iload 7, 2) := by decide +kernel
theorem dX2_prepare_76 : decode cX2_prepare 76 = .ok (.aload_n 1, 1) := by decide +kernel
theorem dX2_prepare_77 : decode cX2_prepare 77 = .ok (.getfield 43, 3) := by decide +kernel
theorem dX2_prepare_80 : decode cX2_prepare 80 = .ok (.if_icmp .ge 45, 3) := by decide +kernel
theorem dX2_prepare_83 : decode cX2_prepare 83 = .ok (.aload_n 0, 1) := by decide +kernel
theorem dX2_prepare_84 : decode cX2_prepare 84 = .ok (.getfield 18, 3) := by decide +kernel
theorem dX2_prepare_87 : decode cX2_prepare 87 = .ok (.iload 7, 2) := by decide +kernel
theorem dX2_prepare_89 : decode cX2_prepare 89 = .ok (.aload_n 0, 1) := by decide +kernel
theorem dX2_prepare_90 : decode cX2_prepare 90 = .ok (.getfield 29, 3) := by decide +kernel
theorem dX2_prepare_93 : decode cX2_prepare 93 = .ok (.aload_n 1, 1) := by decide +kernel
theorem dX2_prepare_94 : decode cX2_prepare 94 = .ok (.iload 7, 2) := by decide +kernel
theorem dX2_prepare_96 : decode cX2_prepare 96 = .ok (.invokevirtual 46, 3) := by decide +kernel
theorem dX2_prepare_99 : decode cX2_prepare 99 = .ok (.imul, 1) := by decide +kernel
theorem dX2_prepare_100 : decode cX2_prepare 100 = .ok (.iastore, 1) := by decide +kernel
theorem dX2_prepare_101 : decode cX2_prepare 101 = .ok (.aload_n 0, 1) := by decide +kernel
theorem dX2_prepare_102 : decode cX2_prepare 102 = .ok (.dup, 1) := by decide +kernel
theorem dX2_prepare_103 : decode cX2_prepare 103 = .ok (.getfield 40, 3) := by decide +kernel
theorem dX2_prepare_106 : decode cX2_prepare 106 = .ok (.iconst 1, 1) := by decide +kernel
theorem dX2_prepare_107 : decode cX2_prepare 107 = .ok (.aload_n 1, 1) := by decide +kernel
theorem dX2_prepare_108 : decode cX2_prepare 108 = .ok (.getfield 50, 3) := by decide +kernel
theorem dX2_prepare_111 : decode cX2_prepare 111 = .ok (.iload 7, 2) := by decide +kernel
theorem dX2_prepare_113 : decode cX2_prepare 113 = .ok (.iaload, 1) := by decide +kernel
theorem dX2_prepare_114 : decode cX2_prepare 114 = .ok (.ishl, 1) := by decide +kernel
theorem dX2_prepare_115 : decode cX2_prepare 115 = .ok (.ior, 1) := by decide +kernel
theorem dX2_prepare_116 : decode cX2_prepare 116 = .ok (.putfield 40, 3) := by decide +kernel
theorem dX2_prepare_119 : decode cX2_prepare 119 = .ok (.iinc 7 1, 3) := by decide +kernel
theorem dX2_prepare_122 : decode cX2_prepare 122 = .ok (.goto (-48), 3) := by decide +kernel
theorem dX2_prepare_125 : decode cX2_prepare 125 = .ok (.return_, 1) := by decide +kernel
def f_X2_prepare (N : Nat) (c1 : Nat) (x2 : Int32) (x3 : Int32) (x4 : Int32) (M : Mem) : Option (Mem) := nm (setI M 26 1 x2) (fun M1 => nm (setI M1 26 2 x3) (fun M2 => nm (((1 : Int64) <<< ((M2.1 26 1).toInt64 &&& 63)) - (1 : Int64)) (fun v3 => lp (fun (k23 : (Int32 × Mem) → Option (Mem)) (a23 : Int32 × Mem) => if (a23.2.1 c1 0) ≤ a23.1 then (nm (setI a23.2 26 3 (0 : Int32)) (fun M4 => lp (fun (k74 : (Int32 × Mem) → Option (Mem)) (a74 : Int32 × Mem) => if (a74.2.1 c1 1) ≤ a74.1 then (some a74.2) else (bd (f_X1_gapOf N c1 a74.1 a74.2) (fun v5 => ck (inb a74.1 10) (nm (setI a74.2 29 a74.1.toNatClampNeg ((a74.2.1 26 2) * v5)) (fun M7 => ck (inb a74.1 10) (nm (setI M7 26 3 ((M7.1 26 3) ||| ((1 : Int32) <<< ((M7.1 (c1 + 3) a74.1.toNatClampNeg) &&& 31)))) (fun M8 => nm (a74.1 + (1 : Int32)) (fun v9 => k74 (v9, M8))))))))) N ((0 : Int32), M4))) else (jn (fun (a59 : Int64) => ck (inb a23.1 6) (nm (setJ a23.2 30 a23.1.toNatClampNeg a59) (fun M10 => nm (a23.1 + (1 : Int32)) (fun v11 => k23 (v11, M10))))) (fun (k59 : Int64 → Option (Mem)) => if x4 = (1 : Int32) then (ck (inb a23.1 6) (k59 (v3 &&& (a23.2.2 (c1 + 5) a23.1.toNatClampNeg)))) else (k59 v3)))) N ((0 : Int32), M2))))
set_option maxRecDepth 100000 in
set_option maxHeartbeats 4000000 in
theorem c_X2_prepare {l : Launch} {D : va_G} {ac : Nat → ClassId} {A : Nat → Prop} {ad : Nat → Nat} {rest : va_W} (N : Nat) (c1 : Nat) (x2 : Int32) (x3 : Int32) (x4 : Int32) (hc1 : NetAt tabX c1) (M : Mem)  (M0 : Mem) (hf : f_X2_prepare N c1 x2 x3 x4 M = some M0) : CtV l D ac A tabX ad rest yX2_prepare cX2_prepare 8  3 [.ref (ad 26), .ref (ad c1), .int x2, .int x3, .int x4] M  M0 := by
  refine ct_ofV (own := RX2) (by decide +kernel) rfl (Nat.le_of_ble_eq_true rfl) ?_
  intro p e s m args below meth c C
  unfold f_X2_prepare at hf
  refine a_L (L' := [(0, .ref (ad 26)), (1, .ref (ad c1)), (2, .int x2), (3, .int x3), (4, .int x4)]) rfl ?_
  refine a_aload_n (pc := 0) C dX2_prepare_0 0 rfl ?_
  refine a_iload_n (pc := 1) C dX2_prepare_1 2 rfl ?_
  refine a_putI (pc := 2) C dX2_prepare_2 fl_X2_25 tx_26 rfl hf (fun M1 hf => ?_)
  refine a_aload_n (pc := 5) C dX2_prepare_5 0 rfl ?_
  refine a_iload_n (pc := 6) C dX2_prepare_6 3 rfl ?_
  refine a_putI (pc := 7) C dX2_prepare_7 fl_X2_29 tx_26 rfl hf (fun M2 hf => ?_)
  refine a_lconst (pc := 10) (v := 1) C dX2_prepare_10 (by decide) ?_
  refine a_aload_n (pc := 11) C dX2_prepare_11 0 rfl ?_
  refine a_getI (pc := 12) C dX2_prepare_12 fl_X2_25 tx_26 rfl ?_
  refine a_lshl (pc := 15) C dX2_prepare_15 ?_
  refine a_lconst (pc := 16) (v := 1) C dX2_prepare_16 (by decide) ?_
  refine a_lsub (pc := 17) C dX2_prepare_17 ?_
  refine a_nml hf (fun v3 hf => ?_)
  refine a_lstore (pc := 18) [(5, .long v3), (0, .ref (ad 26)), (1, .ref (ad c1)), (2, .int x2), (3, .int x3), (4, .int x4)] C dX2_prepare_18 (by decide) rfl ?_
  refine a_iconst (pc := 20) (v := 0) C dX2_prepare_20 (by decide) ?_
  refine a_istore (pc := 21) [(7, .int (0 : Int32)), (5, .long v3), (0, .ref (ad 26)), (1, .ref (ad c1)), (2, .int x2), (3, .int x3), (4, .int x4)] C dX2_prepare_21 (by decide) rfl ?_
  refine a_sub [2, 3, 6, 1, 0] rfl ?_
  refine a_lp 23 (fun a23 : Int32 × Mem => [(0, .ref (ad 26)), (1, .ref (ad c1)), (4, .int x4), (5, .long v3), (7, .int a23.1)]) (fun a23 : Int32 × Mem => []) (fun a23 : Int32 × Mem => a23.2) (fun k23 a23 hk23 hf => ?_) N ((0 : Int32), M2) hf
  refine a_iload (pc := 23) C dX2_prepare_23 4 rfl ?_
  refine a_aload_n (pc := 25) C dX2_prepare_25 1 rfl ?_
  refine a_getI (pc := 26) C dX2_prepare_26 fl_X2_32 hc1.1 rfl ?_
  refine a_icmp_ge (pc := 29) 66 C dX2_prepare_29 (by decide) hf (fun hf => ?_) (fun hf => ?_)
  · refine a_aload_n (pc := 66) C dX2_prepare_66 0 rfl ?_
    refine a_iconst (pc := 67) (v := 0) C dX2_prepare_67 (by decide) ?_
    refine a_putI (pc := 68) C dX2_prepare_68 fl_X2_40 tx_26 rfl hf (fun M4 hf => ?_)
    refine a_iconst (pc := 71) (v := 0) C dX2_prepare_71 (by decide) ?_
    refine a_istore (pc := 72) [(7, .int (0 : Int32)), (0, .ref (ad 26)), (1, .ref (ad c1)), (4, .int x4), (5, .long v3)] C dX2_prepare_72 (by decide) rfl ?_
    refine a_sub [1, 2, 0] rfl ?_
    refine a_lp 74 (fun a74 : Int32 × Mem => [(0, .ref (ad 26)), (1, .ref (ad c1)), (7, .int a74.1)]) (fun a74 : Int32 × Mem => []) (fun a74 : Int32 × Mem => a74.2) (fun k74 a74 hk74 hf => ?_) N ((0 : Int32), M4) hf
    refine a_iload (pc := 74) C dX2_prepare_74 2 rfl ?_
    refine a_aload_n (pc := 76) C dX2_prepare_76 1 rfl ?_
    refine a_getI (pc := 77) C dX2_prepare_77 fl_X2_43 hc1.1 rfl ?_
    refine a_icmp_ge (pc := 80) 125 C dX2_prepare_80 (by decide) hf (fun hf => ?_) (fun hf => ?_)
    · exact a_vret (pc := 125) C dX2_prepare_125 (Option.some.inj hf)
    · refine a_aload_n (pc := 83) C dX2_prepare_83 0 rfl ?_
      refine a_getR (pc := 84) C dX2_prepare_84 fl_X2_18 tx_26 rfl ?_
      refine a_iload (pc := 87) C dX2_prepare_87 2 rfl ?_
      refine a_aload_n (pc := 89) C dX2_prepare_89 0 rfl ?_
      refine a_getI (pc := 90) C dX2_prepare_90 fl_X2_29 tx_26 rfl ?_
      refine a_aload_n (pc := 93) C dX2_prepare_93 1 rfl ?_
      refine a_iload (pc := 94) C dX2_prepare_94 2 rfl ?_
      refine a_callV_Ir (pc := 96) (d' := 2) C dX2_prepare_96 ml_X2_46 mc_X1_gapOf mv_X1_gapOf hc1.1 rfl [.int a74.1] rfl (Nat.le_of_ble_eq_true rfl) (Nat.le_of_ble_eq_true rfl) rfl (Nat.le_of_ble_eq_true rfl) (fun r h => c_X1_gapOf N c1 a74.1 hc1 _  r h) hf (fun v5 hf => ?_)
      refine a_imul (pc := 99) C dX2_prepare_99 ?_
      refine a_iast (pc := 100) C dX2_prepare_100 tx_29 hf (fun M7 hf => ?_)
      refine a_aload_n (pc := 101) C dX2_prepare_101 0 rfl ?_
      refine a_dup (pc := 102) C dX2_prepare_102 rfl ?_
      refine a_getI (pc := 103) C dX2_prepare_103 fl_X2_40 tx_26 rfl ?_
      refine a_iconst (pc := 106) (v := 1) C dX2_prepare_106 (by decide) ?_
      refine a_aload_n (pc := 107) C dX2_prepare_107 1 rfl ?_
      refine a_getR (pc := 108) C dX2_prepare_108 fl_X2_50 hc1.1 rfl ?_
      refine a_iload (pc := 111) C dX2_prepare_111 2 rfl ?_
      refine a_iald (pc := 113) C dX2_prepare_113 hc1.2.2.2.1 hf (fun hf => ?_)
      refine a_ishl (pc := 114) C dX2_prepare_114 ?_
      refine a_ior (pc := 115) C dX2_prepare_115 ?_
      refine a_putI (pc := 116) C dX2_prepare_116 fl_X2_40 tx_26 rfl hf (fun M8 hf => ?_)
      refine a_iinc (pc := 119) (v := 1) (fun v9 => [(7, .int v9), (0, .ref (ad 26)), (1, .ref (ad c1))]) C dX2_prepare_119 2 rfl (by decide) (by decide) (fun _ => rfl) hf (fun v9 hf => ?_)
      refine a_goto (pc := 122) 74 C dX2_prepare_122 (by decide) ?_
      exact a_sub [1, 2, 0] rfl (hk74 (v9, M8) hf)
  · refine a_aload_n (pc := 32) C dX2_prepare_32 0 rfl ?_
    refine a_getR (pc := 33) C dX2_prepare_33 fl_X2_21 tx_26 rfl ?_
    refine a_iload (pc := 36) C dX2_prepare_36 4 rfl ?_
    refine a_iload (pc := 38) C dX2_prepare_38 2 rfl ?_
    refine a_iconst (pc := 40) (v := 1) C dX2_prepare_40 (by decide) ?_
    refine a_jn 59 (fun a59 : Int64 => [(0, .ref (ad 26)), (1, .ref (ad c1)), (4, .int x4), (5, .long v3), (7, .int a23.1)]) (fun a59 : Int64 => [.long a59, .int a23.1, .ref (ad 30)]) (fun a59 : Int64 => a23.2) hf (fun a59 hf => ?_) (fun k59 hk59 hf => ?_)
    · refine a_last (pc := 59) C dX2_prepare_59 tx_30 hf (fun M10 hf => ?_)
      refine a_iinc (pc := 60) (v := 1) (fun v11 => [(7, .int v11), (0, .ref (ad 26)), (1, .ref (ad c1)), (4, .int x4), (5, .long v3)]) C dX2_prepare_60 4 rfl (by decide) (by decide) (fun _ => rfl) hf (fun v11 hf => ?_)
      refine a_goto (pc := 63) 23 C dX2_prepare_63 (by decide) ?_
      exact a_sub [1, 2, 3, 4, 0] rfl (hk23 (v11, M10) hf)
    · refine a_icmp_ne (pc := 41) 57 C dX2_prepare_41 (by decide) hf (fun hf => ?_) (fun hf => ?_)
      · refine a_lload (pc := 57) C dX2_prepare_57 3 rfl ?_
        exact a_sub [0, 1, 2, 3, 4] rfl (hk59 v3 hf)
      · refine a_lload (pc := 44) C dX2_prepare_44 3 rfl ?_
        refine a_aload_n (pc := 46) C dX2_prepare_46 1 rfl ?_
        refine a_getR (pc := 47) C dX2_prepare_47 fl_X2_37 hc1.1 rfl ?_
        refine a_iload (pc := 50) C dX2_prepare_50 4 rfl ?_
        refine a_lald (pc := 52) C dX2_prepare_52 hc1.2.2.2.2.2 hf (fun hf => ?_)
        refine a_land (pc := 53) C dX2_prepare_53 ?_
        refine a_goto (pc := 54) 59 C dX2_prepare_54 (by decide) ?_
        exact a_sub [0, 1, 2, 3, 4] rfl (hk59 (v3 &&& (a23.2.2 (c1 + 5) a23.1.toNatClampNeg)) hf)
theorem dX2_settles_0 : decode cX2_settles 0 = .ok (.iconst 0, 1) := by decide +kernel
theorem dX2_settles_1 : decode cX2_settles 1 = .ok (.istore_n 3, 1) := by decide +kernel
theorem dX2_settles_2 : decode cX2_settles 2 = .ok (.iload_n 3, 1) := by decide +kernel
theorem dX2_settles_3 : decode cX2_settles 3 = .ok (.aload_n 1, 1) := by decide +kernel
theorem dX2_settles_4 : decode cX2_settles 4 = .ok (.getfield 32, 3) := by decide +kernel
theorem dX2_settles_7 : decode cX2_settles 7 = .ok (.if_icmp .ge 20, 3) := by decide +kernel
theorem dX2_settles_10 : decode cX2_settles 10 = .ok (.aload_n 0, 1) := by decide +kernel
theorem dX2_settles_11 : decode cX2_settles 11 = .ok (.iload_n 3, 1) := by decide +kernel
theorem dX2_settles_12 : decode cX2_settles 12 = .ok (.iconst 0, 1) := by decide +kernel
theorem dX2_settles_13 : decode cX2_settles 13 = .ok (.invokevirtual 73, 3) := by decide +kernel
theorem dX2_settles_16 : decode cX2_settles 16 = .ok (.ifCond .ne 5, 3) := by decide +kernel
theorem dX2_settles_19 : decode cX2_settles 19 = .ok (.iconst 0, 1) := by decide +kernel
theorem dX2_settles_20 : decode cX2_settles 20 = .ok (.ireturn, 1) := by decide +kernel
theorem dX2_settles_21 : decode cX2_settles 21 = .ok (.iinc 3 1, 3) := by decide +kernel
theorem dX2_settles_24 : decode cX2_settles 24 = .ok (.goto (-22), 3) := by decide +kernel
theorem dX2_settles_27 : decode cX2_settles 27 = .ok (.iconst 1, 1) := by decide +kernel
theorem dX2_settles_28 : decode cX2_settles 28 = .ok (.istore_n 3, 1) := by decide +kernel
theorem dX2_settles_29 : decode cX2_settles 29 = .ok (.iconst 0, 1) := by decide +kernel
theorem dX2_settles_30 : decode cX2_settles 30 = .ok (.istore 4, 2) := by decide +kernel
theorem dX2_settles_32 : decode cX2_settles 32 = .ok (.iload_n 3, 1) := by decide +kernel
theorem dX2_settles_33 : decode cX2_settles 33 = .ok (.ifCond .eq 195, 3) := by decide +kernel
theorem dX2_settles_36 : decode cX2_settles 36 = .ok (.iload 4, 2) := by decide +kernel
theorem dX2_settles_38 : decode cX2_settles 38 = .ok (.sipush 241, 3) := by decide +kernel
theorem dX2_settles_41 : decode cX2_settles 41 = .ok (.if_icmp .ge 187, 3) := by decide +kernel
theorem dX2_settles_44 : decode cX2_settles 44 = .ok (.iconst 0, 1) := by decide +kernel
theorem dX2_settles_45 : decode cX2_settles 45 = .ok (.istore_n 3, 1) := by decide +kernel
theorem dX2_settles_46 : decode cX2_settles 46 = .ok (.iconst 0, 1) := by decide +kernel
theorem dX2_settles_47 : decode cX2_settles 47 = .ok (.istore 5, 2) := by decide +kernel
theorem dX2_settles_49 : decode cX2_settles 49 = .ok (.iload 5, 2) := by decide +kernel
theorem dX2_settles_51 : decode cX2_settles 51 = .ok (.aload_n 1, 1) := by decide +kernel
theorem dX2_settles_52 : decode cX2_settles 52 = .ok (.getfield 43, 3) := by decide +kernel
theorem dX2_settles_55 : decode cX2_settles 55 = .ok (.if_icmp .ge 167, 3) := by decide +kernel
theorem dX2_settles_58 : decode cX2_settles 58 = .ok (.iload_n 2, 1) := by decide +kernel
theorem dX2_settles_59 : decode cX2_settles 59 = .ok (.iload 5, 2) := by decide +kernel
theorem dX2_settles_61 : decode cX2_settles 61 = .ok (.ishr, 1) := by decide +kernel
theorem dX2_settles_62 : decode cX2_settles 62 = .ok (.iconst 1, 1) := by decide +kernel
theorem dX2_settles_63 : decode cX2_settles 63 = .ok (.iand, 1) := by decide +kernel
theorem dX2_settles_64 : decode cX2_settles 64 = .ok (.iconst 1, 1) := by decide +kernel
theorem dX2_settles_65 : decode cX2_settles 65 = .ok (.if_icmp .ne 7, 3) := by decide +kernel
theorem dX2_settles_68 : decode cX2_settles 68 = .ok (.iconst 1, 1) := by decide +kernel
theorem dX2_settles_69 : decode cX2_settles 69 = .ok (.goto 4, 3) := by decide +kernel
theorem dX2_settles_72 : decode cX2_settles 72 = .ok (.iconst 0, 1) := by decide +kernel
theorem dX2_settles_73 : decode cX2_settles 73 = .ok (.istore 6, 2) := by decide +kernel
theorem dX2_settles_75 : decode cX2_settles 75 = .ok (.iload 6, 2) := by decide +kernel
theorem dX2_settles_77 : decode cX2_settles 77 = .ok (.ifCond .eq 13, 3) := by decide +kernel
theorem dX2_settles_80 : decode cX2_settles 80 = .ok (.aload_n 1, 1) := by decide +kernel
theorem dX2_settles_81 : decode cX2_settles 81 = .ok (.getfield 77, 3) := by decide +kernel
theorem dX2_settles_84 : decode cX2_settles 84 = .ok (.iload 5, 2) := by decide +kernel
theorem dX2_settles_86 : decode cX2_settles 86 = .ok (.iaload, 1) := by decide +kernel
theorem dX2_settles_87 : decode cX2_settles 87 = .ok (.goto 10, 3) := by decide +kernel
theorem dX2_settles_90 : decode cX2_settles 90 = .ok (.aload_n 1, 1) := by decide +kernel
theorem dX2_settles_91 : decode cX2_settles 91 = .ok (.getfield 50, 3) := by decide +kernel
theorem dX2_settles_94 : decode cX2_settles 94 = .ok (.iload 5, 2) := by decide +kernel
theorem dX2_settles_96 : decode cX2_settles 96 = .ok (.iaload, 1) := by decide +kernel
theorem dX2_settles_97 : decode cX2_settles 97 = .ok (.istore 7, 2) := by decide +kernel
theorem dX2_settles_99 : decode cX2_settles 99 = .ok (.iload 6, 2) := by decide +kernel
theorem dX2_settles_101 : decode cX2_settles 101 = .ok (.ifCond .eq 13, 3) := by decide +kernel
theorem dX2_settles_104 : decode cX2_settles 104 = .ok (.aload_n 1, 1) := by decide +kernel
theorem dX2_settles_105 : decode cX2_settles 105 = .ok (.getfield 50, 3) := by decide +kernel
theorem dX2_settles_108 : decode cX2_settles 108 = .ok (.iload 5, 2) := by decide +kernel
theorem dX2_settles_110 : decode cX2_settles 110 = .ok (.iaload, 1) := by decide +kernel
theorem dX2_settles_111 : decode cX2_settles 111 = .ok (.goto 10, 3) := by decide +kernel
theorem dX2_settles_114 : decode cX2_settles 114 = .ok (.aload_n 1, 1) := by decide +kernel
theorem dX2_settles_115 : decode cX2_settles 115 = .ok (.getfield 77, 3) := by decide +kernel
theorem dX2_settles_118 : decode cX2_settles 118 = .ok (.iload 5, 2) := by decide +kernel
theorem dX2_settles_120 : decode cX2_settles 120 = .ok (.iaload, 1) := by decide +kernel
theorem dX2_settles_121 : decode cX2_settles 121 = .ok (.istore 8, 2) := by decide +kernel
theorem dX2_settles_123 : decode cX2_settles 123 = .ok (.aload_n 0, 1) := by decide +kernel
theorem dX2_settles_124 : decode cX2_settles 124 = .ok (.getfield 15, 3) := by decide +kernel
theorem dX2_settles_127 : decode cX2_settles 127 = .ok (.iload 7, 2) := by decide +kernel
theorem dX2_settles_129 : decode cX2_settles 129 = .ok (.iaload, 1) := by decide +kernel
theorem dX2_settles_130 : decode cX2_settles 130 = .ok (.aload_n 0, 1) := by decide +kernel
theorem dX2_settles_131 : decode cX2_settles 131 = .ok (.getfield 18, 3) := by decide +kernel
theorem dX2_settles_134 : decode cX2_settles 134 = .ok (.iload 5, 2) := by decide +kernel
theorem dX2_settles_136 : decode cX2_settles 136 = .ok (.iaload, 1) := by decide +kernel
theorem dX2_settles_137 : decode cX2_settles 137 = .ok (.iadd, 1) := by decide +kernel
theorem dX2_settles_138 : decode cX2_settles 138 = .ok (.istore 9, 2) := by decide +kernel
theorem dX2_settles_140 : decode cX2_settles 140 = .ok (.aload_n 0, 1) := by decide +kernel
theorem dX2_settles_141 : decode cX2_settles 141 = .ok (.getfield 15, 3) := by decide +kernel
theorem dX2_settles_144 : decode cX2_settles 144 = .ok (.iload 8, 2) := by decide +kernel
theorem dX2_settles_146 : decode cX2_settles 146 = .ok (.iaload, 1) := by decide +kernel
theorem dX2_settles_147 : decode cX2_settles 147 = .ok (.iload 9, 2) := by decide +kernel
theorem dX2_settles_149 : decode cX2_settles 149 = .ok (.if_icmp .ge 18, 3) := by decide +kernel
theorem dX2_settles_152 : decode cX2_settles 152 = .ok (.iconst 1, 1) := by decide +kernel
theorem dX2_settles_153 : decode cX2_settles 153 = .ok (.istore_n 3, 1) := by decide +kernel
theorem dX2_settles_154 : decode cX2_settles 154 = .ok (.aload_n 0, 1) := by decide +kernel
theorem dX2_settles_155 : decode cX2_settles 155 = .ok (.iload 8, 2) := by decide +kernel
theorem dX2_settles_157 : decode cX2_settles 157 = .ok (.iload 9, 2) := by decide +kernel
theorem dX2_settles_159 : decode cX2_settles 159 = .ok (.invokevirtual 73, 3) := by decide +kernel
theorem dX2_settles_162 : decode cX2_settles 162 = .ok (.ifCond .ne 5, 3) := by decide +kernel
theorem dX2_settles_165 : decode cX2_settles 165 = .ok (.iconst 0, 1) := by decide +kernel
theorem dX2_settles_166 : decode cX2_settles 166 = .ok (.ireturn, 1) := by decide +kernel
theorem dX2_settles_167 : decode cX2_settles 167 = .ok (.aload_n 0, 1) := by decide +kernel
theorem dX2_settles_168 : decode cX2_settles 168 = .ok (.getfield 15, 3) := by decide +kernel
theorem dX2_settles_171 : decode cX2_settles 171 = .ok (.iload 8, 2) := by decide +kernel
theorem dX2_settles_173 : decode cX2_settles 173 = .ok (.iaload, 1) := by decide +kernel
theorem dX2_settles_174 : decode cX2_settles 174 = .ok (.aload_n 0, 1) := by decide +kernel
theorem dX2_settles_175 : decode cX2_settles 175 = .ok (.getfield 25, 3) := by decide +kernel
theorem dX2_settles_178 : decode cX2_settles 178 = .ok (.aload_n 0, 1) := by decide +kernel
theorem dX2_settles_179 : decode cX2_settles 179 = .ok (.getfield 18, 3) := by decide +kernel
theorem dX2_settles_182 : decode cX2_settles 182 = .ok (.iload 5, 2) := by decide +kernel
theorem dX2_settles_184 : decode cX2_settles 184 = .ok (.iaload, 1) := by decide +kernel
theorem dX2_settles_185 : decode cX2_settles 185 = .ok (.isub, 1) := by decide +kernel
theorem dX2_settles_186 : decode cX2_settles 186 = .ok (.isub, 1) := by decide +kernel
theorem dX2_settles_187 : decode cX2_settles 187 = .ok (.istore 10, 2) := by decide +kernel
theorem dX2_settles_189 : decode cX2_settles 189 = .ok (.aload_n 0, 1) := by decide +kernel
theorem dX2_settles_190 : decode cX2_settles 190 = .ok (.getfield 15, 3) := by decide +kernel
theorem dX2_settles_193 : decode cX2_settles 193 = .ok (.iload 7, 2) := by decide +kernel
theorem dX2_settles_195 : decode cX2_settles 195 = .ok (.iaload, 1) := by decide +kernel
theorem dX2_settles_196 : decode cX2_settles 196 = .ok (.iload 10, 2) := by decide +kernel
theorem dX2_settles_198 : decode cX2_settles 198 = .ok (.if_icmp .ge 18, 3) := by decide +kernel
theorem dX2_settles_201 : decode cX2_settles 201 = .ok (.iconst 1, 1) := by decide +kernel
theorem dX2_settles_202 : decode cX2_settles 202 = .ok (.istore_n 3, 1) := by decide +kernel
theorem dX2_settles_203 : decode cX2_settles 203 = .ok (.aload_n 0, 1) := by decide +kernel
theorem dX2_settles_204 : decode cX2_settles 204 = .ok (.iload 7, 2) := by decide +kernel
theorem dX2_settles_206 : decode cX2_settles 206 = .ok (.iload 10, 2) := by decide +kernel
theorem dX2_settles_208 : decode cX2_settles 208 = .ok (.invokevirtual 73, 3) := by decide +kernel
theorem dX2_settles_211 : decode cX2_settles 211 = .ok (.ifCond .ne 5, 3) := by decide +kernel
theorem dX2_settles_214 : decode cX2_settles 214 = .ok (.iconst 0, 1) := by decide +kernel
theorem dX2_settles_215 : decode cX2_settles 215 = .ok (.ireturn, 1) := by decide +kernel
theorem dX2_settles_216 : decode cX2_settles 216 = .ok (.iinc 5 1, 3) := by decide +kernel
theorem dX2_settles_219 : decode cX2_settles 219 = .ok (.goto (-170), 3) := by decide +kernel
theorem dX2_settles_222 : decode cX2_settles 222 = .ok (.iinc 4 1, 3) := by decide +kernel
theorem dX2_settles_225 : decode cX2_settles 225 = .ok (.goto (-193), 3) := by decide +kernel
theorem dX2_settles_228 : decode cX2_settles 228 = .ok (.iload_n 3, 1) := by decide +kernel
theorem dX2_settles_229 : decode cX2_settles 229 = .ok (.ifCond .ne 7, 3) := by decide +kernel
theorem dX2_settles_232 : decode cX2_settles 232 = .ok (.iconst 1, 1) := by decide +kernel
theorem dX2_settles_233 : decode cX2_settles 233 = .ok (.goto 4, 3) := by decide +kernel
theorem dX2_settles_236 : decode cX2_settles 236 = .ok (.iconst 0, 1) := by decide +kernel
theorem dX2_settles_237 : decode cX2_settles 237 = .ok (.ireturn, 1) := by decide +kernel
def f_X2_settles (N : Nat) (c1 : Nat) (x2 : Int32) (M : Mem) : Option (Int32 × Mem) := lp (fun (k2 : (Int32 × Mem) → Option (Int32 × Mem)) (a2 : Int32 × Mem) => if (a2.2.1 c1 0) ≤ a2.1 then (lp (fun (k32 : (Int32 × Int32 × Mem) → Option (Int32 × Mem)) (a32 : Int32 × Int32 × Mem) => jn (fun (a228 : Unit) => if a32.1 = 0 then (some ((1 : Int32), a32.2.2)) else (some ((0 : Int32), a32.2.2))) (fun (k228 : Unit → Option (Int32 × Mem)) => if a32.1 = 0 then (k228 ()) else (if (241 : Int32) ≤ a32.2.1 then (k228 ()) else (lp (fun (k49 : (Int32 × Int32 × Mem) → Option (Int32 × Mem)) (a49 : Int32 × Int32 × Mem) => if (a49.2.2.1 c1 1) ≤ a49.2.1 then (nm (a32.2.1 + (1 : Int32)) (fun v1 => k32 (a49.1, v1, a49.2.2))) else (jn (fun (a73 : Int32) => jn (fun (a97 : Int32) => jn (fun (a121 : Int32) => ck (inb a97 6) (ck (inb a49.2.1 10) (nm ((a49.2.2.1 28 a97.toNatClampNeg) + (a49.2.2.1 29 a49.2.1.toNatClampNeg)) (fun v2 => ck (inb a121 6) (jn (fun (a167 : Int32 × Mem) => ck (inb a121 6) (ck (inb a49.2.1 10) (nm ((a167.2.1 28 a121.toNatClampNeg) - ((a167.2.1 26 1) - (a167.2.1 29 a49.2.1.toNatClampNeg))) (fun v3 => ck (inb a97 6) (jn (fun (a216 : Int32 × Mem) => nm (a49.2.1 + (1 : Int32)) (fun v4 => k49 (a216.1, v4, a216.2))) (fun (k216 : (Int32 × Mem) → Option (Int32 × Mem)) => if v3 ≤ (a167.2.1 28 a97.toNatClampNeg) then (k216 (a167.1, a167.2)) else (bd (f_X2_lifts N a97 v3 a167.2) (fun w7 => if w7.1 = 0 then (some ((0 : Int32), w7.2)) else (k216 ((1 : Int32), w7.2)))))))))) (fun (k167 : (Int32 × Mem) → Option (Int32 × Mem)) => if v2 ≤ (a49.2.2.1 28 a121.toNatClampNeg) then (k167 (a49.1, a49.2.2)) else (bd (f_X2_lifts N a121 v2 a49.2.2) (fun w10 => if w10.1 = 0 then (some ((0 : Int32), w10.2)) else (k167 ((1 : Int32), w10.2)))))))))) (fun (k121 : Int32 → Option (Int32 × Mem)) => if a73 = 0 then (ck (inb a49.2.1 10) (k121 (a49.2.2.1 (c1 + 4) a49.2.1.toNatClampNeg))) else (ck (inb a49.2.1 10) (k121 (a49.2.2.1 (c1 + 3) a49.2.1.toNatClampNeg))))) (fun (k97 : Int32 → Option (Int32 × Mem)) => if a73 = 0 then (ck (inb a49.2.1 10) (k97 (a49.2.2.1 (c1 + 3) a49.2.1.toNatClampNeg))) else (ck (inb a49.2.1 10) (k97 (a49.2.2.1 (c1 + 4) a49.2.1.toNatClampNeg))))) (fun (k73 : Int32 → Option (Int32 × Mem)) => if ((x2 >>> (a49.2.1 &&& 31)) &&& (1 : Int32)) = (1 : Int32) then (k73 (1 : Int32)) else (k73 (0 : Int32))))) N ((0 : Int32), (0 : Int32), a32.2.2))))) N ((1 : Int32), (0 : Int32), a2.2)) else (bd (f_X2_lifts N a2.1 (0 : Int32) a2.2) (fun w13 => if w13.1 = 0 then (some ((0 : Int32), w13.2)) else (nm (a2.1 + (1 : Int32)) (fun v14 => k2 (v14, w13.2)))))) N ((0 : Int32), M)
set_option maxRecDepth 100000 in
set_option maxHeartbeats 4000000 in
theorem c_X2_settles {l : Launch} {D : va_G} {ac : Nat → ClassId} {A : Nat → Prop} {ad : Nat → Nat} {rest : va_W} (N : Nat) (c1 : Nat) (x2 : Int32) (hc1 : NetAt tabX c1) (M : Mem) (r0 : Int32) (M0 : Mem) (hf : f_X2_settles N c1 x2 M = some (r0, M0)) : CtI l D ac A tabX ad rest yX2_settles cX2_settles 11 .boolean 3 [.ref (ad 26), .ref (ad c1), .int x2] M r0 M0 := by
  refine ct_ofI (own := RX2) (by decide +kernel) rfl (Nat.le_of_ble_eq_true rfl) ?_
  intro p e s m args below meth c C
  unfold f_X2_settles at hf
  refine a_L (L' := [(0, .ref (ad 26)), (1, .ref (ad c1)), (2, .int x2)]) rfl ?_
  refine a_iconst (pc := 0) (v := 0) C dX2_settles_0 (by decide) ?_
  refine a_istore_n (pc := 1) [(3, .int (0 : Int32)), (0, .ref (ad 26)), (1, .ref (ad c1)), (2, .int x2)] C dX2_settles_1 (by decide) rfl ?_
  refine a_sub [1, 2, 3, 0] rfl ?_
  refine a_lp 2 (fun a2 : Int32 × Mem => [(0, .ref (ad 26)), (1, .ref (ad c1)), (2, .int x2), (3, .int a2.1)]) (fun a2 : Int32 × Mem => []) (fun a2 : Int32 × Mem => a2.2) (fun k2 a2 hk2 hf => ?_) N ((0 : Int32), M) hf
  refine a_iload_n (pc := 2) C dX2_settles_2 3 rfl ?_
  refine a_aload_n (pc := 3) C dX2_settles_3 1 rfl ?_
  refine a_getI (pc := 4) C dX2_settles_4 fl_X2_32 hc1.1 rfl ?_
  refine a_icmp_ge (pc := 7) 27 C dX2_settles_7 (by decide) hf (fun hf => ?_) (fun hf => ?_)
  · refine a_iconst (pc := 27) (v := 1) C dX2_settles_27 (by decide) ?_
    refine a_istore_n (pc := 28) [(3, .int (1 : Int32)), (0, .ref (ad 26)), (1, .ref (ad c1)), (2, .int x2)] C dX2_settles_28 (by decide) rfl ?_
    refine a_iconst (pc := 29) (v := 0) C dX2_settles_29 (by decide) ?_
    refine a_istore (pc := 30) [(4, .int (0 : Int32)), (3, .int (1 : Int32)), (0, .ref (ad 26)), (1, .ref (ad c1)), (2, .int x2)] C dX2_settles_30 (by decide) rfl ?_
    refine a_sub [2, 3, 4, 1, 0] rfl ?_
    refine a_lp 32 (fun a32 : Int32 × Int32 × Mem => [(0, .ref (ad 26)), (1, .ref (ad c1)), (2, .int x2), (3, .int a32.1), (4, .int a32.2.1)]) (fun a32 : Int32 × Int32 × Mem => []) (fun a32 : Int32 × Int32 × Mem => a32.2.2) (fun k32 a32 hk32 hf => ?_) N ((1 : Int32), (0 : Int32), a2.2) hf
    refine a_iload_n (pc := 32) C dX2_settles_32 3 rfl ?_
    refine a_jn 228 (fun a228 : Unit => [(3, .int a32.1)]) (fun a228 : Unit => []) (fun a228 : Unit => a32.2.2) hf (fun a228 hf => ?_) (fun k228 hk228 hf => ?_)
    · refine a_iload_n (pc := 228) C dX2_settles_228 0 rfl ?_
      refine a_if_ne (pc := 229) 236 C dX2_settles_229 (by decide) hf (fun hf => ?_) (fun hf => ?_)
      · refine a_iconst (pc := 236) (v := 0) C dX2_settles_236 (by decide) ?_
        exact a_zret (pc := 237) C dX2_settles_237 (Or.inl rfl) (so_1 hf) (so_2 hf)
      · refine a_iconst (pc := 232) (v := 1) C dX2_settles_232 (by decide) ?_
        refine a_goto (pc := 233) 237 C dX2_settles_233 (by decide) ?_
        exact a_zret (pc := 237) C dX2_settles_237 (Or.inr rfl) (so_1 hf) (so_2 hf)
    · refine a_if_eq (pc := 33) 228 C dX2_settles_33 (by decide) hf (fun hf => ?_) (fun hf => ?_)
      · exact a_sub [3] rfl (hk228 () hf)
      · refine a_iload (pc := 36) C dX2_settles_36 4 rfl ?_
        refine a_sipush (pc := 38) (v := 241) C dX2_settles_38 (by decide) ?_
        refine a_icmp_ge (pc := 41) 228 C dX2_settles_41 (by decide) hf (fun hf => ?_) (fun hf => ?_)
        · exact a_sub [3] rfl (hk228 () hf)
        · refine a_iconst (pc := 44) (v := 0) C dX2_settles_44 (by decide) ?_
          refine a_istore_n (pc := 45) [(3, .int (0 : Int32)), (0, .ref (ad 26)), (1, .ref (ad c1)), (2, .int x2), (4, .int a32.2.1)] C dX2_settles_45 (by decide) rfl ?_
          refine a_iconst (pc := 46) (v := 0) C dX2_settles_46 (by decide) ?_
          refine a_istore (pc := 47) [(5, .int (0 : Int32)), (3, .int (0 : Int32)), (0, .ref (ad 26)), (1, .ref (ad c1)), (2, .int x2), (4, .int a32.2.1)] C dX2_settles_47 (by decide) rfl ?_
          refine a_sub [2, 3, 4, 1, 5, 0] rfl ?_
          refine a_lp 49 (fun a49 : Int32 × Int32 × Mem => [(0, .ref (ad 26)), (1, .ref (ad c1)), (2, .int x2), (3, .int a49.1), (4, .int a32.2.1), (5, .int a49.2.1)]) (fun a49 : Int32 × Int32 × Mem => []) (fun a49 : Int32 × Int32 × Mem => a49.2.2) (fun k49 a49 hk49 hf => ?_) N ((0 : Int32), (0 : Int32), a32.2.2) hf
          refine a_iload (pc := 49) C dX2_settles_49 5 rfl ?_
          refine a_aload_n (pc := 51) C dX2_settles_51 1 rfl ?_
          refine a_getI (pc := 52) C dX2_settles_52 fl_X2_43 hc1.1 rfl ?_
          refine a_icmp_ge (pc := 55) 222 C dX2_settles_55 (by decide) hf (fun hf => ?_) (fun hf => ?_)
          · refine a_iinc (pc := 222) (v := 1) (fun v1 => [(4, .int v1), (0, .ref (ad 26)), (1, .ref (ad c1)), (2, .int x2), (3, .int a49.1), (5, .int a49.2.1)]) C dX2_settles_222 4 rfl (by decide) (by decide) (fun _ => rfl) hf (fun v1 hf => ?_)
            refine a_goto (pc := 225) 32 C dX2_settles_225 (by decide) ?_
            exact a_sub [1, 2, 3, 4, 0] rfl (hk32 (a49.1, v1, a49.2.2) hf)
          · refine a_iload_n (pc := 58) C dX2_settles_58 2 rfl ?_
            refine a_iload (pc := 59) C dX2_settles_59 5 rfl ?_
            refine a_ishr (pc := 61) C dX2_settles_61 ?_
            refine a_iconst (pc := 62) (v := 1) C dX2_settles_62 (by decide) ?_
            refine a_iand (pc := 63) C dX2_settles_63 ?_
            refine a_iconst (pc := 64) (v := 1) C dX2_settles_64 (by decide) ?_
            refine a_jn 73 (fun a73 : Int32 => [(0, .ref (ad 26)), (1, .ref (ad c1)), (2, .int x2), (3, .int a49.1), (4, .int a32.2.1), (5, .int a49.2.1)]) (fun a73 : Int32 => [.int a73]) (fun a73 : Int32 => a49.2.2) hf (fun a73 hf => ?_) (fun k73 hk73 hf => ?_)
            · refine a_istore (pc := 73) [(6, .int a73), (0, .ref (ad 26)), (1, .ref (ad c1)), (2, .int x2), (3, .int a49.1), (4, .int a32.2.1), (5, .int a49.2.1)] C dX2_settles_73 (by decide) rfl ?_
              refine a_iload (pc := 75) C dX2_settles_75 0 rfl ?_
              refine a_jn 97 (fun a97 : Int32 => [(0, .ref (ad 26)), (1, .ref (ad c1)), (2, .int x2), (3, .int a49.1), (4, .int a32.2.1), (5, .int a49.2.1), (6, .int a73)]) (fun a97 : Int32 => [.int a97]) (fun a97 : Int32 => a49.2.2) hf (fun a97 hf => ?_) (fun k97 hk97 hf => ?_)
              · refine a_istore (pc := 97) [(7, .int a97), (0, .ref (ad 26)), (1, .ref (ad c1)), (2, .int x2), (3, .int a49.1), (4, .int a32.2.1), (5, .int a49.2.1), (6, .int a73)] C dX2_settles_97 (by decide) rfl ?_
                refine a_iload (pc := 99) C dX2_settles_99 7 rfl ?_
                refine a_jn 121 (fun a121 : Int32 => [(0, .ref (ad 26)), (1, .ref (ad c1)), (2, .int x2), (3, .int a49.1), (4, .int a32.2.1), (5, .int a49.2.1), (7, .int a97)]) (fun a121 : Int32 => [.int a121]) (fun a121 : Int32 => a49.2.2) hf (fun a121 hf => ?_) (fun k121 hk121 hf => ?_)
                · refine a_istore (pc := 121) [(8, .int a121), (0, .ref (ad 26)), (1, .ref (ad c1)), (2, .int x2), (3, .int a49.1), (4, .int a32.2.1), (5, .int a49.2.1), (7, .int a97)] C dX2_settles_121 (by decide) rfl ?_
                  refine a_aload_n (pc := 123) C dX2_settles_123 1 rfl ?_
                  refine a_getR (pc := 124) C dX2_settles_124 fl_X2_15 tx_26 rfl ?_
                  refine a_iload (pc := 127) C dX2_settles_127 7 rfl ?_
                  refine a_iald (pc := 129) C dX2_settles_129 tx_28 hf (fun hf => ?_)
                  refine a_aload_n (pc := 130) C dX2_settles_130 1 rfl ?_
                  refine a_getR (pc := 131) C dX2_settles_131 fl_X2_18 tx_26 rfl ?_
                  refine a_iload (pc := 134) C dX2_settles_134 6 rfl ?_
                  refine a_iald (pc := 136) C dX2_settles_136 tx_29 hf (fun hf => ?_)
                  refine a_iadd (pc := 137) C dX2_settles_137 ?_
                  refine a_nmi hf (fun v2 hf => ?_)
                  refine a_istore (pc := 138) [(9, .int v2), (8, .int a121), (0, .ref (ad 26)), (1, .ref (ad c1)), (2, .int x2), (3, .int a49.1), (4, .int a32.2.1), (5, .int a49.2.1), (7, .int a97)] C dX2_settles_138 (by decide) rfl ?_
                  refine a_aload_n (pc := 140) C dX2_settles_140 2 rfl ?_
                  refine a_getR (pc := 141) C dX2_settles_141 fl_X2_15 tx_26 rfl ?_
                  refine a_iload (pc := 144) C dX2_settles_144 1 rfl ?_
                  refine a_iald (pc := 146) C dX2_settles_146 tx_28 hf (fun hf => ?_)
                  refine a_iload (pc := 147) C dX2_settles_147 0 rfl ?_
                  refine a_jn 167 (fun a167 : Int32 × Mem => [(0, .ref (ad 26)), (1, .ref (ad c1)), (2, .int x2), (3, .int a167.1), (4, .int a32.2.1), (5, .int a49.2.1), (7, .int a97), (8, .int a121)]) (fun a167 : Int32 × Mem => []) (fun a167 : Int32 × Mem => a167.2) hf (fun a167 hf => ?_) (fun k167 hk167 hf => ?_)
                  · refine a_aload_n (pc := 167) C dX2_settles_167 0 rfl ?_
                    refine a_getR (pc := 168) C dX2_settles_168 fl_X2_15 tx_26 rfl ?_
                    refine a_iload (pc := 171) C dX2_settles_171 7 rfl ?_
                    refine a_iald (pc := 173) C dX2_settles_173 tx_28 hf (fun hf => ?_)
                    refine a_aload_n (pc := 174) C dX2_settles_174 0 rfl ?_
                    refine a_getI (pc := 175) C dX2_settles_175 fl_X2_25 tx_26 rfl ?_
                    refine a_aload_n (pc := 178) C dX2_settles_178 0 rfl ?_
                    refine a_getR (pc := 179) C dX2_settles_179 fl_X2_18 tx_26 rfl ?_
                    refine a_iload (pc := 182) C dX2_settles_182 5 rfl ?_
                    refine a_iald (pc := 184) C dX2_settles_184 tx_29 hf (fun hf => ?_)
                    refine a_isub (pc := 185) C dX2_settles_185 ?_
                    refine a_isub (pc := 186) C dX2_settles_186 ?_
                    refine a_nmi hf (fun v3 hf => ?_)
                    refine a_istore (pc := 187) [(10, .int v3), (0, .ref (ad 26)), (1, .ref (ad c1)), (2, .int x2), (3, .int a167.1), (4, .int a32.2.1), (5, .int a49.2.1), (7, .int a97), (8, .int a121)] C dX2_settles_187 (by decide) rfl ?_
                    refine a_aload_n (pc := 189) C dX2_settles_189 1 rfl ?_
                    refine a_getR (pc := 190) C dX2_settles_190 fl_X2_15 tx_26 rfl ?_
                    refine a_iload (pc := 193) C dX2_settles_193 7 rfl ?_
                    refine a_iald (pc := 195) C dX2_settles_195 tx_28 hf (fun hf => ?_)
                    refine a_iload (pc := 196) C dX2_settles_196 0 rfl ?_
                    refine a_jn 216 (fun a216 : Int32 × Mem => [(0, .ref (ad 26)), (1, .ref (ad c1)), (2, .int x2), (3, .int a216.1), (4, .int a32.2.1), (5, .int a49.2.1)]) (fun a216 : Int32 × Mem => []) (fun a216 : Int32 × Mem => a216.2) hf (fun a216 hf => ?_) (fun k216 hk216 hf => ?_)
                    · refine a_iinc (pc := 216) (v := 1) (fun v4 => [(5, .int v4), (0, .ref (ad 26)), (1, .ref (ad c1)), (2, .int x2), (3, .int a216.1), (4, .int a32.2.1)]) C dX2_settles_216 5 rfl (by decide) (by decide) (fun _ => rfl) hf (fun v4 hf => ?_)
                      refine a_goto (pc := 219) 49 C dX2_settles_219 (by decide) ?_
                      exact a_sub [1, 2, 3, 4, 5, 0] rfl (hk49 (a216.1, v4, a216.2) hf)
                    · refine a_icmp_ge (pc := 198) 216 C dX2_settles_198 (by decide) hf (fun hf => ?_) (fun hf => ?_)
                      · exact a_sub [1, 2, 3, 4, 5, 6] rfl (hk216 (a167.1, a167.2) hf)
                      · refine a_iconst (pc := 201) (v := 1) C dX2_settles_201 (by decide) ?_
                        refine a_istore_n (pc := 202) [(3, .int (1 : Int32)), (10, .int v3), (0, .ref (ad 26)), (1, .ref (ad c1)), (2, .int x2), (4, .int a32.2.1), (5, .int a49.2.1), (7, .int a97), (8, .int a121)] C dX2_settles_202 (by decide) rfl ?_
                        refine a_aload_n (pc := 203) C dX2_settles_203 2 rfl ?_
                        refine a_iload (pc := 204) C dX2_settles_204 7 rfl ?_
                        refine a_iload (pc := 206) C dX2_settles_206 1 rfl ?_
                        refine a_callV_I (pc := 208) (d' := 2) C dX2_settles_208 ml_X2_73 mc_X2_lifts mv_X2_lifts tx_26 rfl [.int a97, .int v3] rfl (Nat.le_of_ble_eq_true rfl) (Nat.le_of_ble_eq_true rfl) rfl (Nat.le_of_ble_eq_true rfl) (fun r M' h => c_X2_lifts N a97 v3  _  r M' h) hf (fun v5 M6 hf => ?_)
                        refine a_if_ne (pc := 211) 216 C dX2_settles_211 (by decide) hf (fun hf => ?_) (fun hf => ?_)
                        · exact a_sub [2, 3, 4, 0, 5, 6] rfl (hk216 ((1 : Int32), M6) hf)
                        · refine a_iconst (pc := 214) (v := 0) C dX2_settles_214 (by decide) ?_
                          exact a_zret (pc := 215) C dX2_settles_215 (Or.inl rfl) (so_1 hf) (so_2 hf)
                  · refine a_icmp_ge (pc := 149) 167 C dX2_settles_149 (by decide) hf (fun hf => ?_) (fun hf => ?_)
                    · exact a_sub [2, 3, 4, 5, 6, 7, 8, 1] rfl (hk167 (a49.1, a49.2.2) hf)
                    · refine a_iconst (pc := 152) (v := 1) C dX2_settles_152 (by decide) ?_
                      refine a_istore_n (pc := 153) [(3, .int (1 : Int32)), (9, .int v2), (8, .int a121), (0, .ref (ad 26)), (1, .ref (ad c1)), (2, .int x2), (4, .int a32.2.1), (5, .int a49.2.1), (7, .int a97)] C dX2_settles_153 (by decide) rfl ?_
                      refine a_aload_n (pc := 154) C dX2_settles_154 3 rfl ?_
                      refine a_iload (pc := 155) C dX2_settles_155 2 rfl ?_
                      refine a_iload (pc := 157) C dX2_settles_157 1 rfl ?_
                      refine a_callV_I (pc := 159) (d' := 2) C dX2_settles_159 ml_X2_73 mc_X2_lifts mv_X2_lifts tx_26 rfl [.int a121, .int v2] rfl (Nat.le_of_ble_eq_true rfl) (Nat.le_of_ble_eq_true rfl) rfl (Nat.le_of_ble_eq_true rfl) (fun r M' h => c_X2_lifts N a121 v2  _  r M' h) hf (fun v8 M9 hf => ?_)
                      refine a_if_ne (pc := 162) 167 C dX2_settles_162 (by decide) hf (fun hf => ?_) (fun hf => ?_)
                      · exact a_sub [3, 4, 5, 0, 6, 7, 8, 2] rfl (hk167 ((1 : Int32), M9) hf)
                      · refine a_iconst (pc := 165) (v := 0) C dX2_settles_165 (by decide) ?_
                        exact a_zret (pc := 166) C dX2_settles_166 (Or.inl rfl) (so_1 hf) (so_2 hf)
                · refine a_if_eq (pc := 101) 114 C dX2_settles_101 (by decide) hf (fun hf => ?_) (fun hf => ?_)
                  · refine a_aload_n (pc := 114) C dX2_settles_114 2 rfl ?_
                    refine a_getR (pc := 115) C dX2_settles_115 fl_X2_77 hc1.1 rfl ?_
                    refine a_iload (pc := 118) C dX2_settles_118 6 rfl ?_
                    refine a_iald (pc := 120) C dX2_settles_120 hc1.2.2.2.2.1 hf (fun hf => ?_)
                    exact a_sub [1, 2, 3, 4, 5, 6, 0] rfl (hk121 (a49.2.2.1 (c1 + 4) a49.2.1.toNatClampNeg) hf)
                  · refine a_aload_n (pc := 104) C dX2_settles_104 2 rfl ?_
                    refine a_getR (pc := 105) C dX2_settles_105 fl_X2_50 hc1.1 rfl ?_
                    refine a_iload (pc := 108) C dX2_settles_108 6 rfl ?_
                    refine a_iald (pc := 110) C dX2_settles_110 hc1.2.2.2.1 hf (fun hf => ?_)
                    refine a_goto (pc := 111) 121 C dX2_settles_111 (by decide) ?_
                    exact a_sub [1, 2, 3, 4, 5, 6, 0] rfl (hk121 (a49.2.2.1 (c1 + 3) a49.2.1.toNatClampNeg) hf)
              · refine a_if_eq (pc := 77) 90 C dX2_settles_77 (by decide) hf (fun hf => ?_) (fun hf => ?_)
                · refine a_aload_n (pc := 90) C dX2_settles_90 2 rfl ?_
                  refine a_getR (pc := 91) C dX2_settles_91 fl_X2_50 hc1.1 rfl ?_
                  refine a_iload (pc := 94) C dX2_settles_94 6 rfl ?_
                  refine a_iald (pc := 96) C dX2_settles_96 hc1.2.2.2.1 hf (fun hf => ?_)
                  exact a_sub [1, 2, 3, 4, 5, 6, 0] rfl (hk97 (a49.2.2.1 (c1 + 3) a49.2.1.toNatClampNeg) hf)
                · refine a_aload_n (pc := 80) C dX2_settles_80 2 rfl ?_
                  refine a_getR (pc := 81) C dX2_settles_81 fl_X2_77 hc1.1 rfl ?_
                  refine a_iload (pc := 84) C dX2_settles_84 6 rfl ?_
                  refine a_iald (pc := 86) C dX2_settles_86 hc1.2.2.2.2.1 hf (fun hf => ?_)
                  refine a_goto (pc := 87) 97 C dX2_settles_87 (by decide) ?_
                  exact a_sub [1, 2, 3, 4, 5, 6, 0] rfl (hk97 (a49.2.2.1 (c1 + 4) a49.2.1.toNatClampNeg) hf)
            · refine a_icmp_ne (pc := 65) 72 C dX2_settles_65 (by decide) hf (fun hf => ?_) (fun hf => ?_)
              · refine a_iconst (pc := 72) (v := 0) C dX2_settles_72 (by decide) ?_
                exact a_sub [0, 1, 2, 3, 4, 5] rfl (hk73 (0 : Int32) hf)
              · refine a_iconst (pc := 68) (v := 1) C dX2_settles_68 (by decide) ?_
                refine a_goto (pc := 69) 73 C dX2_settles_69 (by decide) ?_
                exact a_sub [0, 1, 2, 3, 4, 5] rfl (hk73 (1 : Int32) hf)
  · refine a_aload_n (pc := 10) C dX2_settles_10 0 rfl ?_
    refine a_iload_n (pc := 11) C dX2_settles_11 3 rfl ?_
    refine a_iconst (pc := 12) (v := 0) C dX2_settles_12 (by decide) ?_
    refine a_callV_I (pc := 13) (d' := 2) C dX2_settles_13 ml_X2_73 mc_X2_lifts mv_X2_lifts tx_26 rfl [.int a2.1, .int (0 : Int32)] rfl (Nat.le_of_ble_eq_true rfl) (Nat.le_of_ble_eq_true rfl) rfl (Nat.le_of_ble_eq_true rfl) (fun r M' h => c_X2_lifts N a2.1 (0 : Int32)  _  r M' h) hf (fun v11 M12 hf => ?_)
    refine a_if_ne (pc := 16) 21 C dX2_settles_16 (by decide) hf (fun hf => ?_) (fun hf => ?_)
    · refine a_iinc (pc := 21) (v := 1) (fun v14 => [(3, .int v14), (0, .ref (ad 26)), (1, .ref (ad c1)), (2, .int x2)]) C dX2_settles_21 3 rfl (by decide) (by decide) (fun _ => rfl) hf (fun v14 hf => ?_)
      refine a_goto (pc := 24) 2 C dX2_settles_24 (by decide) ?_
      exact a_sub [1, 2, 3, 0] rfl (hk2 (v14, M12) hf)
    · refine a_iconst (pc := 19) (v := 0) C dX2_settles_19 (by decide) ?_
      exact a_zret (pc := 20) C dX2_settles_20 (Or.inl rfl) (so_1 hf) (so_2 hf)
theorem dX4_goRound_0 : decode cX4_goRound 0 = .ok (.iload_n 2, 1) := by decide +kernel
theorem dX4_goRound_1 : decode cX4_goRound 1 = .ok (.invokestatic 78, 3) := by decide +kernel
theorem dX4_goRound_4 : decode cX4_goRound 4 = .ok (.istore_n 3, 1) := by decide +kernel
theorem dX4_goRound_5 : decode cX4_goRound 5 = .ok (.aload_n 1, 1) := by decide +kernel
theorem dX4_goRound_6 : decode cX4_goRound 6 = .ok (.getfield 58, 3) := by decide +kernel
theorem dX4_goRound_9 : decode cX4_goRound 9 = .ok (.iload_n 3, 1) := by decide +kernel
theorem dX4_goRound_10 : decode cX4_goRound 10 = .ok (.iaload, 1) := by decide +kernel
theorem dX4_goRound_11 : decode cX4_goRound 11 = .ok (.istore 4, 2) := by decide +kernel
theorem dX4_goRound_13 : decode cX4_goRound 13 = .ok (.iconst 1, 1) := by decide +kernel
theorem dX4_goRound_14 : decode cX4_goRound 14 = .ok (.iload_n 3, 1) := by decide +kernel
theorem dX4_goRound_15 : decode cX4_goRound 15 = .ok (.ishl, 1) := by decide +kernel
theorem dX4_goRound_16 : decode cX4_goRound 16 = .ok (.istore 5, 2) := by decide +kernel
theorem dX4_goRound_18 : decode cX4_goRound 18 = .ok (.iload 5, 2) := by decide +kernel
theorem dX4_goRound_20 : decode cX4_goRound 20 = .ok (.istore 6, 2) := by decide +kernel
theorem dX4_goRound_22 : decode cX4_goRound 22 = .ok (.iconst 0, 1) := by decide +kernel
theorem dX4_goRound_23 : decode cX4_goRound 23 = .ok (.istore 7, 2) := by decide +kernel
theorem dX4_goRound_25 : decode cX4_goRound 25 = .ok (.iload 7, 2) := by decide +kernel
theorem dX4_goRound_27 : decode cX4_goRound 27 = .ok (.bipush 6, 2) := by decide +kernel
theorem dX4_goRound_29 : decode cX4_goRound 29 = .ok (.if_icmp .ge 101, 3) := by decide +kernel
theorem dX4_goRound_32 : decode cX4_goRound 32 = .ok (.iload 4, 2) := by decide +kernel
theorem dX4_goRound_34 : decode cX4_goRound 34 = .ok (.aload_n 1, 1) := by decide +kernel
theorem dX4_goRound_35 : decode cX4_goRound 35 = .ok (.getfield 55, 3) := by decide +kernel
theorem dX4_goRound_38 : decode cX4_goRound 38 = .ok (.iload_n 3, 1) := by decide +kernel
theorem dX4_goRound_39 : decode cX4_goRound 39 = .ok (.iaload, 1) := by decide +kernel
theorem dX4_goRound_40 : decode cX4_goRound 40 = .ok (.if_icmp .eq 90, 3) := by decide +kernel
theorem dX4_goRound_43 : decode cX4_goRound 43 = .ok (.iload_n 2, 1) := by decide +kernel
theorem dX4_goRound_44 : decode cX4_goRound 44 = .ok (.aload_n 0, 1) := by decide +kernel
theorem dX4_goRound_45 : decode cX4_goRound 45 = .ok (.getfield 18, 3) := by decide +kernel
theorem dX4_goRound_48 : decode cX4_goRound 48 = .ok (.iload 4, 2) := by decide +kernel
theorem dX4_goRound_50 : decode cX4_goRound 50 = .ok (.iaload, 1) := by decide +kernel
theorem dX4_goRound_51 : decode cX4_goRound 51 = .ok (.iand, 1) := by decide +kernel
theorem dX4_goRound_52 : decode cX4_goRound 52 = .ok (.iload 5, 2) := by decide +kernel
theorem dX4_goRound_54 : decode cX4_goRound 54 = .ok (.iconst (-1), 1) := by decide +kernel
theorem dX4_goRound_55 : decode cX4_goRound 55 = .ok (.ixor, 1) := by decide +kernel
theorem dX4_goRound_56 : decode cX4_goRound 56 = .ok (.iand, 1) := by decide +kernel
theorem dX4_goRound_57 : decode cX4_goRound 57 = .ok (.istore 8, 2) := by decide +kernel
theorem dX4_goRound_59 : decode cX4_goRound 59 = .ok (.iload 8, 2) := by decide +kernel
theorem dX4_goRound_61 : decode cX4_goRound 61 = .ok (.invokestatic 61, 3) := by decide +kernel
theorem dX4_goRound_64 : decode cX4_goRound 64 = .ok (.iconst 1, 1) := by decide +kernel
theorem dX4_goRound_65 : decode cX4_goRound 65 = .ok (.if_icmp .eq 5, 3) := by decide +kernel
theorem dX4_goRound_68 : decode cX4_goRound 68 = .ok (.iconst (-1), 1) := by decide +kernel
theorem dX4_goRound_69 : decode cX4_goRound 69 = .ok (.ireturn, 1) := by decide +kernel
theorem dX4_goRound_70 : decode cX4_goRound 70 = .ok (.iload 8, 2) := by decide +kernel
theorem dX4_goRound_72 : decode cX4_goRound 72 = .ok (.invokestatic 78, 3) := by decide +kernel
theorem dX4_goRound_75 : decode cX4_goRound 75 = .ok (.istore 9, 2) := by decide +kernel
theorem dX4_goRound_77 : decode cX4_goRound 77 = .ok (.iload 5, 2) := by decide +kernel
theorem dX4_goRound_79 : decode cX4_goRound 79 = .ok (.iload 8, 2) := by decide +kernel
theorem dX4_goRound_81 : decode cX4_goRound 81 = .ok (.ior, 1) := by decide +kernel
theorem dX4_goRound_82 : decode cX4_goRound 82 = .ok (.istore 5, 2) := by decide +kernel
theorem dX4_goRound_84 : decode cX4_goRound 84 = .ok (.aload_n 1, 1) := by decide +kernel
theorem dX4_goRound_85 : decode cX4_goRound 85 = .ok (.getfield 55, 3) := by decide +kernel
theorem dX4_goRound_88 : decode cX4_goRound 88 = .ok (.iload 9, 2) := by decide +kernel
theorem dX4_goRound_90 : decode cX4_goRound 90 = .ok (.iaload, 1) := by decide +kernel
theorem dX4_goRound_91 : decode cX4_goRound 91 = .ok (.iload 4, 2) := by decide +kernel
theorem dX4_goRound_93 : decode cX4_goRound 93 = .ok (.if_icmp .ne 22, 3) := by decide +kernel
theorem dX4_goRound_96 : decode cX4_goRound 96 = .ok (.iload 6, 2) := by decide +kernel
theorem dX4_goRound_98 : decode cX4_goRound 98 = .ok (.iload 8, 2) := by decide +kernel
theorem dX4_goRound_100 : decode cX4_goRound 100 = .ok (.ior, 1) := by decide +kernel
theorem dX4_goRound_101 : decode cX4_goRound 101 = .ok (.istore 6, 2) := by decide +kernel
theorem dX4_goRound_103 : decode cX4_goRound 103 = .ok (.aload_n 1, 1) := by decide +kernel
theorem dX4_goRound_104 : decode cX4_goRound 104 = .ok (.getfield 58, 3) := by decide +kernel
theorem dX4_goRound_107 : decode cX4_goRound 107 = .ok (.iload 9, 2) := by decide +kernel
theorem dX4_goRound_109 : decode cX4_goRound 109 = .ok (.iaload, 1) := by decide +kernel
theorem dX4_goRound_110 : decode cX4_goRound 110 = .ok (.istore 4, 2) := by decide +kernel
theorem dX4_goRound_112 : decode cX4_goRound 112 = .ok (.goto 12, 3) := by decide +kernel
theorem dX4_goRound_115 : decode cX4_goRound 115 = .ok (.aload_n 1, 1) := by decide +kernel
theorem dX4_goRound_116 : decode cX4_goRound 116 = .ok (.getfield 55, 3) := by decide +kernel
theorem dX4_goRound_119 : decode cX4_goRound 119 = .ok (.iload 9, 2) := by decide +kernel
theorem dX4_goRound_121 : decode cX4_goRound 121 = .ok (.iaload, 1) := by decide +kernel
theorem dX4_goRound_122 : decode cX4_goRound 122 = .ok (.istore 4, 2) := by decide +kernel
theorem dX4_goRound_124 : decode cX4_goRound 124 = .ok (.iinc 7 1, 3) := by decide +kernel
theorem dX4_goRound_127 : decode cX4_goRound 127 = .ok (.goto (-102), 3) := by decide +kernel
theorem dX4_goRound_130 : decode cX4_goRound 130 = .ok (.iload 5, 2) := by decide +kernel
theorem dX4_goRound_132 : decode cX4_goRound 132 = .ok (.iload_n 2, 1) := by decide +kernel
theorem dX4_goRound_133 : decode cX4_goRound 133 = .ok (.if_icmp .ne 19, 3) := by decide +kernel
theorem dX4_goRound_136 : decode cX4_goRound 136 = .ok (.iload 4, 2) := by decide +kernel
theorem dX4_goRound_138 : decode cX4_goRound 138 = .ok (.aload_n 1, 1) := by decide +kernel
theorem dX4_goRound_139 : decode cX4_goRound 139 = .ok (.getfield 55, 3) := by decide +kernel
theorem dX4_goRound_142 : decode cX4_goRound 142 = .ok (.iload_n 3, 1) := by decide +kernel
theorem dX4_goRound_143 : decode cX4_goRound 143 = .ok (.iaload, 1) := by decide +kernel
theorem dX4_goRound_144 : decode cX4_goRound 144 = .ok (.if_icmp .ne 8, 3) := by decide +kernel
theorem dX4_goRound_147 : decode cX4_goRound 147 = .ok (.iload 6, 2) := by decide +kernel
theorem dX4_goRound_149 : decode cX4_goRound 149 = .ok (.goto 4, 3) := by decide +kernel
theorem dX4_goRound_152 : decode cX4_goRound 152 = .ok (.iconst (-1), 1) := by decide +kernel
theorem dX4_goRound_153 : decode cX4_goRound 153 = .ok (.ireturn, 1) := by decide +kernel
def f_X4_goRound (N : Nat) (c1 : Nat) (x2 : Int32) (M : Mem) : Option (Int32) := bd (f_X4_leastOf N x2 M) (fun v1 => ck (inb v1 10) (nm (M.1 (c1 + 4) v1.toNatClampNeg) (fun v3 => nm ((1 : Int32) <<< (v1 &&& 31)) (fun v4 => lp (fun (k25 : (Int32 × Int32 × Int32 × Int32) → Option (Int32)) (a25 : Int32 × Int32 × Int32 × Int32) => jn (fun (a130 : Unit) => jn (fun (a152 : Unit) => some (-1 : Int32)) (fun (k152 : Unit → Option (Int32)) => if a25.2.1 = x2 then (ck (inb v1 10) (if a25.1 = (M.1 (c1 + 3) v1.toNatClampNeg) then (some a25.2.2.1) else (k152 ()))) else (k152 ()))) (fun (k130 : Unit → Option (Int32)) => if (6 : Int32) ≤ a25.2.2.2 then (k130 ()) else (ck (inb v1 10) (if a25.1 = (M.1 (c1 + 3) v1.toNatClampNeg) then (k130 ()) else (ck (inb a25.1 6) (nm ((x2 &&& (M.1 22 a25.1.toNatClampNeg)) &&& (a25.2.1 ^^^ (-1 : Int32))) (fun v5 => bd (f_J6_bitCount_0f7a4 N v5 M) (fun v6 => if v6 = (1 : Int32) then (bd (f_X4_leastOf N v5 M) (fun v8 => nm (a25.2.1 ||| v5) (fun v10 => ck (inb v8 10) (jn (fun (a124 : Int32 × Int32) => nm (a25.2.2.2 + (1 : Int32)) (fun v11 => k25 (a124.1, v10, a124.2, v11))) (fun (k124 : (Int32 × Int32) → Option (Int32)) => if (M.1 (c1 + 3) v8.toNatClampNeg) = a25.1 then (nm (a25.2.2.1 ||| v5) (fun v13 => ck (inb v8 10) (nm (M.1 (c1 + 4) v8.toNatClampNeg) (fun v14 => k124 (v14, v13))))) else (ck (inb v8 10) (nm (M.1 (c1 + 3) v8.toNatClampNeg) (fun v12 => k124 (v12, a25.2.2.1))))))))) else (some (-1 : Int32)))))))))) N (v3, v4, v4, (0 : Int32))))))
set_option maxRecDepth 100000 in
set_option maxHeartbeats 4000000 in
theorem c_X4_goRound {l : Launch} {D : va_G} {ac : Nat → ClassId} {A : Nat → Prop} {ad : Nat → Nat} {rest : va_W} (N : Nat) (c1 : Nat) (x2 : Int32) (hc1 : NetAt tabX c1) (M : Mem) (r0 : Int32) (hf : f_X4_goRound N c1 x2 M = some r0) : CtI l D ac A tabX ad rest yX4_goRound cX4_goRound 10 .int 3 [.ref (ad 19), .ref (ad c1), .int x2] M r0 M := by
  refine ct_ofI (own := RX4) (by decide +kernel) rfl (Nat.le_of_ble_eq_true rfl) ?_
  intro p e s m args below meth c C
  unfold f_X4_goRound at hf
  refine a_L (L' := [(0, .ref (ad 19)), (1, .ref (ad c1)), (2, .int x2)]) rfl ?_
  refine a_iload_n (pc := 0) C dX4_goRound_0 2 rfl ?_
  refine a_callS_Ir (pc := 1) (d' := 2) C dX4_goRound_1 ml_X4_78 mc_X4_leastOf ms_X4_leastOf [.int x2] rfl (Nat.le_of_ble_eq_true rfl) (Nat.le_of_ble_eq_true rfl) rfl (Nat.le_of_ble_eq_true rfl) (fun r h => c_X4_leastOf N x2  _  r h) hf (fun v1 hf => ?_)
  refine a_istore_n (pc := 4) [(3, .int v1), (0, .ref (ad 19)), (1, .ref (ad c1)), (2, .int x2)] C dX4_goRound_4 (by decide) rfl ?_
  refine a_aload_n (pc := 5) C dX4_goRound_5 2 rfl ?_
  refine a_getR (pc := 6) C dX4_goRound_6 fl_X4_58 hc1.1 rfl ?_
  refine a_iload_n (pc := 9) C dX4_goRound_9 0 rfl ?_
  refine a_iald (pc := 10) C dX4_goRound_10 hc1.2.2.2.2.1 hf (fun hf => ?_)
  refine a_nmi hf (fun v3 hf => ?_)
  refine a_istore (pc := 11) [(4, .int v3), (3, .int v1), (0, .ref (ad 19)), (1, .ref (ad c1)), (2, .int x2)] C dX4_goRound_11 (by decide) rfl ?_
  refine a_iconst (pc := 13) (v := 1) C dX4_goRound_13 (by decide) ?_
  refine a_iload_n (pc := 14) C dX4_goRound_14 1 rfl ?_
  refine a_ishl (pc := 15) C dX4_goRound_15 ?_
  refine a_nmi hf (fun v4 hf => ?_)
  refine a_istore (pc := 16) [(5, .int v4), (4, .int v3), (3, .int v1), (0, .ref (ad 19)), (1, .ref (ad c1)), (2, .int x2)] C dX4_goRound_16 (by decide) rfl ?_
  refine a_iload (pc := 18) C dX4_goRound_18 0 rfl ?_
  refine a_istore (pc := 20) [(6, .int v4), (5, .int v4), (4, .int v3), (3, .int v1), (0, .ref (ad 19)), (1, .ref (ad c1)), (2, .int x2)] C dX4_goRound_20 (by decide) rfl ?_
  refine a_iconst (pc := 22) (v := 0) C dX4_goRound_22 (by decide) ?_
  refine a_istore (pc := 23) [(7, .int (0 : Int32)), (6, .int v4), (5, .int v4), (4, .int v3), (3, .int v1), (0, .ref (ad 19)), (1, .ref (ad c1)), (2, .int x2)] C dX4_goRound_23 (by decide) rfl ?_
  refine a_sub [5, 6, 7, 4, 3, 2, 1, 0] rfl ?_
  refine a_lp 25 (fun a25 : Int32 × Int32 × Int32 × Int32 => [(0, .ref (ad 19)), (1, .ref (ad c1)), (2, .int x2), (3, .int v1), (4, .int a25.1), (5, .int a25.2.1), (6, .int a25.2.2.1), (7, .int a25.2.2.2)]) (fun a25 : Int32 × Int32 × Int32 × Int32 => []) (fun a25 : Int32 × Int32 × Int32 × Int32 => M) (fun k25 a25 hk25 hf => ?_) N (v3, v4, v4, (0 : Int32)) hf
  refine a_iload (pc := 25) C dX4_goRound_25 7 rfl ?_
  refine a_bipush (pc := 27) (v := 6) C dX4_goRound_27 (by decide) ?_
  refine a_jn 130 (fun a130 : Unit => [(1, .ref (ad c1)), (2, .int x2), (3, .int v1), (4, .int a25.1), (5, .int a25.2.1), (6, .int a25.2.2.1)]) (fun a130 : Unit => []) (fun a130 : Unit => M) hf (fun a130 hf => ?_) (fun k130 hk130 hf => ?_)
  · refine a_iload (pc := 130) C dX4_goRound_130 4 rfl ?_
    refine a_iload_n (pc := 132) C dX4_goRound_132 1 rfl ?_
    refine a_jn 152 (fun a152 : Unit => []) (fun a152 : Unit => []) (fun a152 : Unit => M) hf (fun a152 hf => ?_) (fun k152 hk152 hf => ?_)
    · refine a_iconst (pc := 152) (v := (-1)) C dX4_goRound_152 (by decide) ?_
      exact a_iret (pc := 153) C dX4_goRound_153 (Option.some.inj hf) rfl
    · refine a_icmp_ne (pc := 133) 152 C dX4_goRound_133 (by decide) hf (fun hf => ?_) (fun hf => ?_)
      · exact a_sub [] rfl (hk152 () hf)
      · refine a_iload (pc := 136) C dX4_goRound_136 3 rfl ?_
        refine a_aload_n (pc := 138) C dX4_goRound_138 0 rfl ?_
        refine a_getR (pc := 139) C dX4_goRound_139 fl_X4_55 hc1.1 rfl ?_
        refine a_iload_n (pc := 142) C dX4_goRound_142 2 rfl ?_
        refine a_iald (pc := 143) C dX4_goRound_143 hc1.2.2.2.1 hf (fun hf => ?_)
        refine a_icmp_ne (pc := 144) 152 C dX4_goRound_144 (by decide) hf (fun hf => ?_) (fun hf => ?_)
        · exact a_sub [] rfl (hk152 () hf)
        · refine a_iload (pc := 147) C dX4_goRound_147 5 rfl ?_
          refine a_goto (pc := 149) 153 C dX4_goRound_149 (by decide) ?_
          exact a_iret (pc := 153) C dX4_goRound_153 (Option.some.inj hf) rfl
  · refine a_icmp_ge (pc := 29) 130 C dX4_goRound_29 (by decide) hf (fun hf => ?_) (fun hf => ?_)
    · exact a_sub [1, 2, 3, 4, 5, 6] rfl (hk130 () hf)
    · refine a_iload (pc := 32) C dX4_goRound_32 4 rfl ?_
      refine a_aload_n (pc := 34) C dX4_goRound_34 1 rfl ?_
      refine a_getR (pc := 35) C dX4_goRound_35 fl_X4_55 hc1.1 rfl ?_
      refine a_iload_n (pc := 38) C dX4_goRound_38 3 rfl ?_
      refine a_iald (pc := 39) C dX4_goRound_39 hc1.2.2.2.1 hf (fun hf => ?_)
      refine a_icmp_eq (pc := 40) 130 C dX4_goRound_40 (by decide) hf (fun hf => ?_) (fun hf => ?_)
      · exact a_sub [1, 2, 3, 4, 5, 6] rfl (hk130 () hf)
      · refine a_iload_n (pc := 43) C dX4_goRound_43 2 rfl ?_
        refine a_aload_n (pc := 44) C dX4_goRound_44 0 rfl ?_
        refine a_getR (pc := 45) C dX4_goRound_45 fl_X4_18 tx_19 rfl ?_
        refine a_iload (pc := 48) C dX4_goRound_48 4 rfl ?_
        refine a_iald (pc := 50) C dX4_goRound_50 tx_22 hf (fun hf => ?_)
        refine a_iand (pc := 51) C dX4_goRound_51 ?_
        refine a_iload (pc := 52) C dX4_goRound_52 5 rfl ?_
        refine a_iconst (pc := 54) (v := (-1)) C dX4_goRound_54 (by decide) ?_
        refine a_ixor (pc := 55) C dX4_goRound_55 ?_
        refine a_iand (pc := 56) C dX4_goRound_56 ?_
        refine a_nmi hf (fun v5 hf => ?_)
        refine a_istore (pc := 57) [(8, .int v5), (0, .ref (ad 19)), (1, .ref (ad c1)), (2, .int x2), (3, .int v1), (4, .int a25.1), (5, .int a25.2.1), (6, .int a25.2.2.1), (7, .int a25.2.2.2)] C dX4_goRound_57 (by decide) rfl ?_
        refine a_iload (pc := 59) C dX4_goRound_59 0 rfl ?_
        refine a_callS_Ir (pc := 61) (d' := 1) C dX4_goRound_61 ml_X4_61 mc_J6_bitCount_0f7a4 ms_J6_bitCount_0f7a4 [.int v5] rfl (Nat.le_of_ble_eq_true rfl) (Nat.le_of_ble_eq_true rfl) rfl (Nat.le_of_ble_eq_true rfl) (fun r h => c_J6_bitCount_0f7a4 N v5  _  r h) hf (fun v6 hf => ?_)
        refine a_iconst (pc := 64) (v := 1) C dX4_goRound_64 (by decide) ?_
        refine a_icmp_eq (pc := 65) 70 C dX4_goRound_65 (by decide) hf (fun hf => ?_) (fun hf => ?_)
        · refine a_iload (pc := 70) C dX4_goRound_70 0 rfl ?_
          refine a_callS_Ir (pc := 72) (d' := 2) C dX4_goRound_72 ml_X4_78 mc_X4_leastOf ms_X4_leastOf [.int v5] rfl (Nat.le_of_ble_eq_true rfl) (Nat.le_of_ble_eq_true rfl) rfl (Nat.le_of_ble_eq_true rfl) (fun r h => c_X4_leastOf N v5  _  r h) hf (fun v8 hf => ?_)
          refine a_istore (pc := 75) [(9, .int v8), (8, .int v5), (0, .ref (ad 19)), (1, .ref (ad c1)), (2, .int x2), (3, .int v1), (4, .int a25.1), (5, .int a25.2.1), (6, .int a25.2.2.1), (7, .int a25.2.2.2)] C dX4_goRound_75 (by decide) rfl ?_
          refine a_iload (pc := 77) C dX4_goRound_77 7 rfl ?_
          refine a_iload (pc := 79) C dX4_goRound_79 1 rfl ?_
          refine a_ior (pc := 81) C dX4_goRound_81 ?_
          refine a_nmi hf (fun v10 hf => ?_)
          refine a_istore (pc := 82) [(5, .int v10), (9, .int v8), (8, .int v5), (0, .ref (ad 19)), (1, .ref (ad c1)), (2, .int x2), (3, .int v1), (4, .int a25.1), (6, .int a25.2.2.1), (7, .int a25.2.2.2)] C dX4_goRound_82 (by decide) rfl ?_
          refine a_aload_n (pc := 84) C dX4_goRound_84 4 rfl ?_
          refine a_getR (pc := 85) C dX4_goRound_85 fl_X4_55 hc1.1 rfl ?_
          refine a_iload (pc := 88) C dX4_goRound_88 1 rfl ?_
          refine a_iald (pc := 90) C dX4_goRound_90 hc1.2.2.2.1 hf (fun hf => ?_)
          refine a_iload (pc := 91) C dX4_goRound_91 7 rfl ?_
          refine a_jn 124 (fun a124 : Int32 × Int32 => [(0, .ref (ad 19)), (1, .ref (ad c1)), (2, .int x2), (3, .int v1), (4, .int a124.1), (5, .int v10), (6, .int a124.2), (7, .int a25.2.2.2)]) (fun a124 : Int32 × Int32 => []) (fun a124 : Int32 × Int32 => M) hf (fun a124 hf => ?_) (fun k124 hk124 hf => ?_)
          · refine a_iinc (pc := 124) (v := 1) (fun v11 => [(7, .int v11), (0, .ref (ad 19)), (1, .ref (ad c1)), (2, .int x2), (3, .int v1), (4, .int a124.1), (5, .int v10), (6, .int a124.2)]) C dX4_goRound_124 7 rfl (by decide) (by decide) (fun _ => rfl) hf (fun v11 hf => ?_)
            refine a_goto (pc := 127) 25 C dX4_goRound_127 (by decide) ?_
            exact a_sub [1, 2, 3, 4, 5, 6, 7, 0] rfl (hk25 (a124.1, v10, a124.2, v11) hf)
          · refine a_icmp_ne (pc := 93) 115 C dX4_goRound_93 (by decide) hf (fun hf => ?_) (fun hf => ?_)
            · refine a_aload_n (pc := 115) C dX4_goRound_115 4 rfl ?_
              refine a_getR (pc := 116) C dX4_goRound_116 fl_X4_55 hc1.1 rfl ?_
              refine a_iload (pc := 119) C dX4_goRound_119 1 rfl ?_
              refine a_iald (pc := 121) C dX4_goRound_121 hc1.2.2.2.1 hf (fun hf => ?_)
              refine a_nmi hf (fun v12 hf => ?_)
              refine a_istore (pc := 122) [(4, .int v12), (5, .int v10), (9, .int v8), (8, .int v5), (0, .ref (ad 19)), (1, .ref (ad c1)), (2, .int x2), (3, .int v1), (6, .int a25.2.2.1), (7, .int a25.2.2.2)] C dX4_goRound_122 (by decide) rfl ?_
              exact a_sub [4, 5, 6, 7, 0, 1, 8, 9] rfl (hk124 (v12, a25.2.2.1) hf)
            · refine a_iload (pc := 96) C dX4_goRound_96 8 rfl ?_
              refine a_iload (pc := 98) C dX4_goRound_98 2 rfl ?_
              refine a_ior (pc := 100) C dX4_goRound_100 ?_
              refine a_nmi hf (fun v13 hf => ?_)
              refine a_istore (pc := 101) [(6, .int v13), (5, .int v10), (9, .int v8), (8, .int v5), (0, .ref (ad 19)), (1, .ref (ad c1)), (2, .int x2), (3, .int v1), (4, .int a25.1), (7, .int a25.2.2.2)] C dX4_goRound_101 (by decide) rfl ?_
              refine a_aload_n (pc := 103) C dX4_goRound_103 5 rfl ?_
              refine a_getR (pc := 104) C dX4_goRound_104 fl_X4_58 hc1.1 rfl ?_
              refine a_iload (pc := 107) C dX4_goRound_107 2 rfl ?_
              refine a_iald (pc := 109) C dX4_goRound_109 hc1.2.2.2.2.1 hf (fun hf => ?_)
              refine a_nmi hf (fun v14 hf => ?_)
              refine a_istore (pc := 110) [(4, .int v14), (6, .int v13), (5, .int v10), (9, .int v8), (8, .int v5), (0, .ref (ad 19)), (1, .ref (ad c1)), (2, .int x2), (3, .int v1), (7, .int a25.2.2.2)] C dX4_goRound_110 (by decide) rfl ?_
              refine a_goto (pc := 112) 124 C dX4_goRound_112 (by decide) ?_
              exact a_sub [5, 6, 7, 8, 0, 2, 1, 9] rfl (hk124 (v14, v13) hf)
        · refine a_iconst (pc := 68) (v := (-1)) C dX4_goRound_68 (by decide) ?_
          exact a_iret (pc := 69) C dX4_goRound_69 (Option.some.inj hf) rfl
theorem dX4_addRing_0 : decode cX4_addRing 0 = .ok (.aload_n 0, 1) := by decide +kernel
theorem dX4_addRing_1 : decode cX4_addRing 1 = .ok (.getfield 37, 3) := by decide +kernel
theorem dX4_addRing_4 : decode cX4_addRing 4 = .ok (.bipush 64, 2) := by decide +kernel
theorem dX4_addRing_6 : decode cX4_addRing 6 = .ok (.if_icmp .lt 4, 3) := by decide +kernel
theorem dX4_addRing_9 : decode cX4_addRing 9 = .ok (.return_, 1) := by decide +kernel
theorem dX4_addRing_10 : decode cX4_addRing 10 = .ok (.iconst 0, 1) := by decide +kernel
theorem dX4_addRing_11 : decode cX4_addRing 11 = .ok (.istore 5, 2) := by decide +kernel
theorem dX4_addRing_13 : decode cX4_addRing 13 = .ok (.iconst 0, 1) := by decide +kernel
theorem dX4_addRing_14 : decode cX4_addRing 14 = .ok (.istore 6, 2) := by decide +kernel
theorem dX4_addRing_16 : decode cX4_addRing 16 = .ok (.iload 6, 2) := by decide +kernel
theorem dX4_addRing_18 : decode cX4_addRing 18 = .ok (.aload_n 1, 1) := by decide +kernel
theorem dX4_addRing_19 : decode cX4_addRing 19 = .ok (.getfield 41, 3) := by decide +kernel
theorem dX4_addRing_22 : decode cX4_addRing 22 = .ok (.if_icmp .ge 30, 3) := by decide +kernel
theorem dX4_addRing_25 : decode cX4_addRing 25 = .ok (.iload_n 2, 1) := by decide +kernel
theorem dX4_addRing_26 : decode cX4_addRing 26 = .ok (.iload 6, 2) := by decide +kernel
theorem dX4_addRing_28 : decode cX4_addRing 28 = .ok (.ishr, 1) := by decide +kernel
theorem dX4_addRing_29 : decode cX4_addRing 29 = .ok (.iconst 1, 1) := by decide +kernel
theorem dX4_addRing_30 : decode cX4_addRing 30 = .ok (.iand, 1) := by decide +kernel
theorem dX4_addRing_31 : decode cX4_addRing 31 = .ok (.iconst 1, 1) := by decide +kernel
theorem dX4_addRing_32 : decode cX4_addRing 32 = .ok (.if_icmp .ne 14, 3) := by decide +kernel
theorem dX4_addRing_35 : decode cX4_addRing 35 = .ok (.iload 5, 2) := by decide +kernel
theorem dX4_addRing_37 : decode cX4_addRing 37 = .ok (.aload_n 1, 1) := by decide +kernel
theorem dX4_addRing_38 : decode cX4_addRing 38 = .ok (.iload 6, 2) := by decide +kernel
theorem dX4_addRing_40 : decode cX4_addRing 40 = .ok (.invokevirtual 81, 3) := by decide +kernel
theorem dX4_addRing_43 : decode cX4_addRing 43 = .ok (.iadd, 1) := by decide +kernel
theorem dX4_addRing_44 : decode cX4_addRing 44 = .ok (.istore 5, 2) := by decide +kernel
theorem dX4_addRing_46 : decode cX4_addRing 46 = .ok (.iinc 6 1, 3) := by decide +kernel
theorem dX4_addRing_49 : decode cX4_addRing 49 = .ok (.goto (-33), 3) := by decide +kernel
theorem dX4_addRing_52 : decode cX4_addRing 52 = .ok (.aload_n 0, 1) := by decide +kernel
theorem dX4_addRing_53 : decode cX4_addRing 53 = .ok (.getfield 11, 3) := by decide +kernel
theorem dX4_addRing_56 : decode cX4_addRing 56 = .ok (.aload_n 0, 1) := by decide +kernel
theorem dX4_addRing_57 : decode cX4_addRing 57 = .ok (.getfield 37, 3) := by decide +kernel
theorem dX4_addRing_60 : decode cX4_addRing 60 = .ok (.iload_n 2, 1) := by decide +kernel
theorem dX4_addRing_61 : decode cX4_addRing 61 = .ok (.iastore, 1) := by decide +kernel
theorem dX4_addRing_62 : decode cX4_addRing 62 = .ok (.aload_n 0, 1) := by decide +kernel
theorem dX4_addRing_63 : decode cX4_addRing 63 = .ok (.getfield 24, 3) := by decide +kernel
theorem dX4_addRing_66 : decode cX4_addRing 66 = .ok (.aload_n 0, 1) := by decide +kernel
theorem dX4_addRing_67 : decode cX4_addRing 67 = .ok (.getfield 37, 3) := by decide +kernel
theorem dX4_addRing_70 : decode cX4_addRing 70 = .ok (.iload_n 3, 1) := by decide +kernel
theorem dX4_addRing_71 : decode cX4_addRing 71 = .ok (.iastore, 1) := by decide +kernel
theorem dX4_addRing_72 : decode cX4_addRing 72 = .ok (.aload_n 0, 1) := by decide +kernel
theorem dX4_addRing_73 : decode cX4_addRing 73 = .ok (.getfield 21, 3) := by decide +kernel
theorem dX4_addRing_76 : decode cX4_addRing 76 = .ok (.aload_n 0, 1) := by decide +kernel
theorem dX4_addRing_77 : decode cX4_addRing 77 = .ok (.getfield 37, 3) := by decide +kernel
theorem dX4_addRing_80 : decode cX4_addRing 80 = .ok (.iload_n 2, 1) := by decide +kernel
theorem dX4_addRing_81 : decode cX4_addRing 81 = .ok (.invokestatic 61, 3) := by decide +kernel
theorem dX4_addRing_84 : decode cX4_addRing 84 = .ok (.iastore, 1) := by decide +kernel
theorem dX4_addRing_85 : decode cX4_addRing 85 = .ok (.aload_n 0, 1) := by decide +kernel
theorem dX4_addRing_86 : decode cX4_addRing 86 = .ok (.getfield 15, 3) := by decide +kernel
theorem dX4_addRing_89 : decode cX4_addRing 89 = .ok (.aload_n 0, 1) := by decide +kernel
theorem dX4_addRing_90 : decode cX4_addRing 90 = .ok (.getfield 37, 3) := by decide +kernel
theorem dX4_addRing_93 : decode cX4_addRing 93 = .ok (.iload 5, 2) := by decide +kernel
theorem dX4_addRing_95 : decode cX4_addRing 95 = .ok (.iload 4, 2) := by decide +kernel
theorem dX4_addRing_97 : decode cX4_addRing 97 = .ok (.imul, 1) := by decide +kernel
theorem dX4_addRing_98 : decode cX4_addRing 98 = .ok (.iastore, 1) := by decide +kernel
theorem dX4_addRing_99 : decode cX4_addRing 99 = .ok (.aload_n 0, 1) := by decide +kernel
theorem dX4_addRing_100 : decode cX4_addRing 100 = .ok (.dup, 1) := by decide +kernel
theorem dX4_addRing_101 : decode cX4_addRing 101 = .ok (.getfield 37, 3) := by decide +kernel
theorem dX4_addRing_104 : decode cX4_addRing 104 = .ok (.iconst 1, 1) := by decide +kernel
theorem dX4_addRing_105 : decode cX4_addRing 105 = .ok (.iadd, 1) := by decide +kernel
theorem dX4_addRing_106 : decode cX4_addRing 106 = .ok (.putfield 37, 3) := by decide +kernel
theorem dX4_addRing_109 : decode cX4_addRing 109 = .ok (.return_, 1) := by decide +kernel
def f_X4_addRing (N : Nat) (c1 : Nat) (x2 : Int32) (x3 : Int32) (x4 : Int32) (M : Mem) : Option (Mem) := if (M.1 19 0) < (64 : Int32) then (lp (fun (k16 : (Int32 × Int32) → Option (Mem)) (a16 : Int32 × Int32) => if (M.1 c1 1) ≤ a16.2 then (ck (inb (M.1 19 0) 64) (nm (setI M 20 (M.1 19 0).toNatClampNeg x2) (fun M1 => ck (inb (M1.1 19 0) 64) (nm (setI M1 24 (M1.1 19 0).toNatClampNeg x3) (fun M2 => bd (f_J6_bitCount_0f7a4 N x2 M2) (fun v3 => ck (inb (M2.1 19 0) 64) (nm (setI M2 23 (M2.1 19 0).toNatClampNeg v3) (fun M5 => ck (inb (M5.1 19 0) 64) (nm (setI M5 21 (M5.1 19 0).toNatClampNeg (a16.1 * x4)) (fun M6 => nm (setI M6 19 0 ((M6.1 19 0) + (1 : Int32))) (fun M7 => some M7))))))))))) else (jn (fun (a46 : Int32) => nm (a16.2 + (1 : Int32)) (fun v8 => k16 (a46, v8))) (fun (k46 : Int32 → Option (Mem)) => if ((x2 >>> (a16.2 &&& 31)) &&& (1 : Int32)) = (1 : Int32) then (bd (f_X1_gapOf N c1 a16.2 M) (fun v9 => nm (a16.1 + v9) (fun v11 => k46 v11))) else (k46 a16.1)))) N ((0 : Int32), (0 : Int32))) else (some M)
set_option maxRecDepth 100000 in
set_option maxHeartbeats 4000000 in
theorem c_X4_addRing {l : Launch} {D : va_G} {ac : Nat → ClassId} {A : Nat → Prop} {ad : Nat → Nat} {rest : va_W} (N : Nat) (c1 : Nat) (x2 : Int32) (x3 : Int32) (x4 : Int32) (hc1 : NetAt tabX c1) (M : Mem)  (M0 : Mem) (hf : f_X4_addRing N c1 x2 x3 x4 M = some M0) : CtV l D ac A tabX ad rest yX4_addRing cX4_addRing 7  3 [.ref (ad 19), .ref (ad c1), .int x2, .int x3, .int x4] M  M0 := by
  refine ct_ofV (own := RX4) (by decide +kernel) rfl (Nat.le_of_ble_eq_true rfl) ?_
  intro p e s m args below meth c C
  unfold f_X4_addRing at hf
  refine a_L (L' := [(0, .ref (ad 19)), (1, .ref (ad c1)), (2, .int x2), (3, .int x3), (4, .int x4)]) rfl ?_
  refine a_aload_n (pc := 0) C dX4_addRing_0 0 rfl ?_
  refine a_getI (pc := 1) C dX4_addRing_1 fl_X4_37 tx_19 rfl ?_
  refine a_bipush (pc := 4) (v := 64) C dX4_addRing_4 (by decide) ?_
  refine a_icmp_lt (pc := 6) 10 C dX4_addRing_6 (by decide) hf (fun hf => ?_) (fun hf => ?_)
  · refine a_iconst (pc := 10) (v := 0) C dX4_addRing_10 (by decide) ?_
    refine a_istore (pc := 11) [(5, .int (0 : Int32)), (0, .ref (ad 19)), (1, .ref (ad c1)), (2, .int x2), (3, .int x3), (4, .int x4)] C dX4_addRing_11 (by decide) rfl ?_
    refine a_iconst (pc := 13) (v := 0) C dX4_addRing_13 (by decide) ?_
    refine a_istore (pc := 14) [(6, .int (0 : Int32)), (5, .int (0 : Int32)), (0, .ref (ad 19)), (1, .ref (ad c1)), (2, .int x2), (3, .int x3), (4, .int x4)] C dX4_addRing_14 (by decide) rfl ?_
    refine a_sub [2, 3, 4, 5, 6, 1, 0] rfl ?_
    refine a_lp 16 (fun a16 : Int32 × Int32 => [(0, .ref (ad 19)), (1, .ref (ad c1)), (2, .int x2), (3, .int x3), (4, .int x4), (5, .int a16.1), (6, .int a16.2)]) (fun a16 : Int32 × Int32 => []) (fun a16 : Int32 × Int32 => M) (fun k16 a16 hk16 hf => ?_) N ((0 : Int32), (0 : Int32)) hf
    refine a_iload (pc := 16) C dX4_addRing_16 6 rfl ?_
    refine a_aload_n (pc := 18) C dX4_addRing_18 1 rfl ?_
    refine a_getI (pc := 19) C dX4_addRing_19 fl_X4_41 hc1.1 rfl ?_
    refine a_icmp_ge (pc := 22) 52 C dX4_addRing_22 (by decide) hf (fun hf => ?_) (fun hf => ?_)
    · refine a_aload_n (pc := 52) C dX4_addRing_52 0 rfl ?_
      refine a_getR (pc := 53) C dX4_addRing_53 fl_X4_11 tx_19 rfl ?_
      refine a_aload_n (pc := 56) C dX4_addRing_56 0 rfl ?_
      refine a_getI (pc := 57) C dX4_addRing_57 fl_X4_37 tx_19 rfl ?_
      refine a_iload_n (pc := 60) C dX4_addRing_60 2 rfl ?_
      refine a_iast (pc := 61) C dX4_addRing_61 tx_20 hf (fun M1 hf => ?_)
      refine a_aload_n (pc := 62) C dX4_addRing_62 0 rfl ?_
      refine a_getR (pc := 63) C dX4_addRing_63 fl_X4_24 tx_19 rfl ?_
      refine a_aload_n (pc := 66) C dX4_addRing_66 0 rfl ?_
      refine a_getI (pc := 67) C dX4_addRing_67 fl_X4_37 tx_19 rfl ?_
      refine a_iload_n (pc := 70) C dX4_addRing_70 3 rfl ?_
      refine a_iast (pc := 71) C dX4_addRing_71 tx_24 hf (fun M2 hf => ?_)
      refine a_aload_n (pc := 72) C dX4_addRing_72 0 rfl ?_
      refine a_getR (pc := 73) C dX4_addRing_73 fl_X4_21 tx_19 rfl ?_
      refine a_aload_n (pc := 76) C dX4_addRing_76 0 rfl ?_
      refine a_getI (pc := 77) C dX4_addRing_77 fl_X4_37 tx_19 rfl ?_
      refine a_iload_n (pc := 80) C dX4_addRing_80 2 rfl ?_
      refine a_callS_Ir (pc := 81) (d' := 1) C dX4_addRing_81 ml_X4_61 mc_J6_bitCount_0f7a4 ms_J6_bitCount_0f7a4 [.int x2] rfl (Nat.le_of_ble_eq_true rfl) (Nat.le_of_ble_eq_true rfl) rfl (Nat.le_of_ble_eq_true rfl) (fun r h => c_J6_bitCount_0f7a4 N x2  _  r h) hf (fun v3 hf => ?_)
      refine a_iast (pc := 84) C dX4_addRing_84 tx_23 hf (fun M5 hf => ?_)
      refine a_aload_n (pc := 85) C dX4_addRing_85 0 rfl ?_
      refine a_getR (pc := 86) C dX4_addRing_86 fl_X4_15 tx_19 rfl ?_
      refine a_aload_n (pc := 89) C dX4_addRing_89 0 rfl ?_
      refine a_getI (pc := 90) C dX4_addRing_90 fl_X4_37 tx_19 rfl ?_
      refine a_iload (pc := 93) C dX4_addRing_93 5 rfl ?_
      refine a_iload (pc := 95) C dX4_addRing_95 4 rfl ?_
      refine a_imul (pc := 97) C dX4_addRing_97 ?_
      refine a_iast (pc := 98) C dX4_addRing_98 tx_21 hf (fun M6 hf => ?_)
      refine a_aload_n (pc := 99) C dX4_addRing_99 0 rfl ?_
      refine a_dup (pc := 100) C dX4_addRing_100 rfl ?_
      refine a_getI (pc := 101) C dX4_addRing_101 fl_X4_37 tx_19 rfl ?_
      refine a_iconst (pc := 104) (v := 1) C dX4_addRing_104 (by decide) ?_
      refine a_iadd (pc := 105) C dX4_addRing_105 ?_
      refine a_putI (pc := 106) C dX4_addRing_106 fl_X4_37 tx_19 rfl hf (fun M7 hf => ?_)
      exact a_vret (pc := 109) C dX4_addRing_109 (Option.some.inj hf)
    · refine a_iload_n (pc := 25) C dX4_addRing_25 2 rfl ?_
      refine a_iload (pc := 26) C dX4_addRing_26 6 rfl ?_
      refine a_ishr (pc := 28) C dX4_addRing_28 ?_
      refine a_iconst (pc := 29) (v := 1) C dX4_addRing_29 (by decide) ?_
      refine a_iand (pc := 30) C dX4_addRing_30 ?_
      refine a_iconst (pc := 31) (v := 1) C dX4_addRing_31 (by decide) ?_
      refine a_jn 46 (fun a46 : Int32 => [(0, .ref (ad 19)), (1, .ref (ad c1)), (2, .int x2), (3, .int x3), (4, .int x4), (5, .int a46), (6, .int a16.2)]) (fun a46 : Int32 => []) (fun a46 : Int32 => M) hf (fun a46 hf => ?_) (fun k46 hk46 hf => ?_)
      · refine a_iinc (pc := 46) (v := 1) (fun v8 => [(6, .int v8), (0, .ref (ad 19)), (1, .ref (ad c1)), (2, .int x2), (3, .int x3), (4, .int x4), (5, .int a46)]) C dX4_addRing_46 6 rfl (by decide) (by decide) (fun _ => rfl) hf (fun v8 hf => ?_)
        refine a_goto (pc := 49) 16 C dX4_addRing_49 (by decide) ?_
        exact a_sub [1, 2, 3, 4, 5, 6, 0] rfl (hk16 (a46, v8) hf)
      · refine a_icmp_ne (pc := 32) 46 C dX4_addRing_32 (by decide) hf (fun hf => ?_) (fun hf => ?_)
        · exact a_sub [0, 1, 2, 3, 4, 5, 6] rfl (hk46 a16.1 hf)
        · refine a_iload (pc := 35) C dX4_addRing_35 5 rfl ?_
          refine a_aload_n (pc := 37) C dX4_addRing_37 1 rfl ?_
          refine a_iload (pc := 38) C dX4_addRing_38 6 rfl ?_
          refine a_callV_Ir (pc := 40) (d' := 2) C dX4_addRing_40 ml_X4_81 mc_X1_gapOf mv_X1_gapOf hc1.1 rfl [.int a16.2] rfl (Nat.le_of_ble_eq_true rfl) (Nat.le_of_ble_eq_true rfl) rfl (Nat.le_of_ble_eq_true rfl) (fun r h => c_X1_gapOf N c1 a16.2 hc1 _  r h) hf (fun v9 hf => ?_)
          refine a_iadd (pc := 43) C dX4_addRing_43 ?_
          refine a_nmi hf (fun v11 hf => ?_)
          refine a_istore (pc := 44) [(5, .int v11), (0, .ref (ad 19)), (1, .ref (ad c1)), (2, .int x2), (3, .int x3), (4, .int x4), (6, .int a16.2)] C dX4_addRing_44 (by decide) rfl ?_
          exact a_sub [1, 2, 3, 4, 5, 0, 6] rfl (hk46 v11 hf)
  · exact a_vret (pc := 9) C dX4_addRing_9 (Option.some.inj hf)
theorem dX4_worstRing_0 : decode cX4_worstRing 0 = .ok (.bipush (-2), 2) := by decide +kernel
theorem dX4_worstRing_2 : decode cX4_worstRing 2 = .ok (.istore_n 2, 1) := by decide +kernel
theorem dX4_worstRing_3 : decode cX4_worstRing 3 = .ok (.iconst 0, 1) := by decide +kernel
theorem dX4_worstRing_4 : decode cX4_worstRing 4 = .ok (.istore_n 3, 1) := by decide +kernel
theorem dX4_worstRing_5 : decode cX4_worstRing 5 = .ok (.iconst 1, 1) := by decide +kernel
theorem dX4_worstRing_6 : decode cX4_worstRing 6 = .ok (.istore 4, 2) := by decide +kernel
theorem dX4_worstRing_8 : decode cX4_worstRing 8 = .ok (.iconst 0, 1) := by decide +kernel
theorem dX4_worstRing_9 : decode cX4_worstRing 9 = .ok (.istore 5, 2) := by decide +kernel
theorem dX4_worstRing_11 : decode cX4_worstRing 11 = .ok (.iload 5, 2) := by decide +kernel
theorem dX4_worstRing_13 : decode cX4_worstRing 13 = .ok (.aload_n 0, 1) := by decide +kernel
theorem dX4_worstRing_14 : decode cX4_worstRing 14 = .ok (.getfield 37, 3) := by decide +kernel
theorem dX4_worstRing_17 : decode cX4_worstRing 17 = .ok (.if_icmp .ge 57, 3) := by decide +kernel
theorem dX4_worstRing_20 : decode cX4_worstRing 20 = .ok (.aload_n 0, 1) := by decide +kernel
theorem dX4_worstRing_21 : decode cX4_worstRing 21 = .ok (.iload 5, 2) := by decide +kernel
theorem dX4_worstRing_23 : decode cX4_worstRing 23 = .ok (.iload_n 1, 1) := by decide +kernel
theorem dX4_worstRing_24 : decode cX4_worstRing 24 = .ok (.invokevirtual 90, 3) := by decide +kernel
theorem dX4_worstRing_27 : decode cX4_worstRing 27 = .ok (.istore 6, 2) := by decide +kernel
theorem dX4_worstRing_29 : decode cX4_worstRing 29 = .ok (.iload 6, 2) := by decide +kernel
theorem dX4_worstRing_31 : decode cX4_worstRing 31 = .ok (.ifCond .ne 5, 3) := by decide +kernel
theorem dX4_worstRing_34 : decode cX4_worstRing 34 = .ok (.iconst (-1), 1) := by decide +kernel
theorem dX4_worstRing_35 : decode cX4_worstRing 35 = .ok (.ireturn, 1) := by decide +kernel
theorem dX4_worstRing_36 : decode cX4_worstRing 36 = .ok (.aload_n 0, 1) := by decide +kernel
theorem dX4_worstRing_37 : decode cX4_worstRing 37 = .ok (.getfield 15, 3) := by decide +kernel
theorem dX4_worstRing_40 : decode cX4_worstRing 40 = .ok (.iload 5, 2) := by decide +kernel
theorem dX4_worstRing_42 : decode cX4_worstRing 42 = .ok (.iaload, 1) := by decide +kernel
theorem dX4_worstRing_43 : decode cX4_worstRing 43 = .ok (.iload 4, 2) := by decide +kernel
theorem dX4_worstRing_45 : decode cX4_worstRing 45 = .ok (.imul, 1) := by decide +kernel
theorem dX4_worstRing_46 : decode cX4_worstRing 46 = .ok (.iload_n 3, 1) := by decide +kernel
theorem dX4_worstRing_47 : decode cX4_worstRing 47 = .ok (.iload 6, 2) := by decide +kernel
theorem dX4_worstRing_49 : decode cX4_worstRing 49 = .ok (.imul, 1) := by decide +kernel
theorem dX4_worstRing_50 : decode cX4_worstRing 50 = .ok (.if_icmp .le 18, 3) := by decide +kernel
theorem dX4_worstRing_53 : decode cX4_worstRing 53 = .ok (.iload 5, 2) := by decide +kernel
theorem dX4_worstRing_55 : decode cX4_worstRing 55 = .ok (.istore_n 2, 1) := by decide +kernel
theorem dX4_worstRing_56 : decode cX4_worstRing 56 = .ok (.aload_n 0, 1) := by decide +kernel
theorem dX4_worstRing_57 : decode cX4_worstRing 57 = .ok (.getfield 15, 3) := by decide +kernel
theorem dX4_worstRing_60 : decode cX4_worstRing 60 = .ok (.iload 5, 2) := by decide +kernel
theorem dX4_worstRing_62 : decode cX4_worstRing 62 = .ok (.iaload, 1) := by decide +kernel
theorem dX4_worstRing_63 : decode cX4_worstRing 63 = .ok (.istore_n 3, 1) := by decide +kernel
theorem dX4_worstRing_64 : decode cX4_worstRing 64 = .ok (.iload 6, 2) := by decide +kernel
theorem dX4_worstRing_66 : decode cX4_worstRing 66 = .ok (.istore 4, 2) := by decide +kernel
theorem dX4_worstRing_68 : decode cX4_worstRing 68 = .ok (.iinc 5 1, 3) := by decide +kernel
theorem dX4_worstRing_71 : decode cX4_worstRing 71 = .ok (.goto (-60), 3) := by decide +kernel
theorem dX4_worstRing_74 : decode cX4_worstRing 74 = .ok (.iload_n 2, 1) := by decide +kernel
theorem dX4_worstRing_75 : decode cX4_worstRing 75 = .ok (.ireturn, 1) := by decide +kernel
def f_X4_worstRing (N : Nat) (x1 : Int32) (M : Mem) : Option (Int32) := lp (fun (k11 : (Int32 × Int32 × Int32 × Int32) → Option (Int32)) (a11 : Int32 × Int32 × Int32 × Int32) => if (M.1 19 0) ≤ a11.2.2.2 then (some a11.1) else (bd (f_X4_along N a11.2.2.2 x1 M) (fun v1 => if v1 = 0 then (some (-1 : Int32)) else (ck (inb a11.2.2.2 64) (jn (fun (a68 : Int32 × Int32 × Int32) => nm (a11.2.2.2 + (1 : Int32)) (fun v3 => k11 (a68.1, a68.2.1, a68.2.2, v3))) (fun (k68 : (Int32 × Int32 × Int32) → Option (Int32)) => if ((M.1 21 a11.2.2.2.toNatClampNeg) * a11.2.2.1) ≤ (a11.2.1 * v1) then (k68 (a11.1, a11.2.1, a11.2.2.1)) else (ck (inb a11.2.2.2 64) (nm (M.1 21 a11.2.2.2.toNatClampNeg) (fun v4 => k68 (a11.2.2.2, v4, v1)))))))))) N ((-2 : Int32), (0 : Int32), (1 : Int32), (0 : Int32))
set_option maxRecDepth 100000 in
set_option maxHeartbeats 4000000 in
theorem c_X4_worstRing {l : Launch} {D : va_G} {ac : Nat → ClassId} {A : Nat → Prop} {ad : Nat → Nat} {rest : va_W} (N : Nat) (x1 : Int32)  (M : Mem) (r0 : Int32) (hf : f_X4_worstRing N x1 M = some r0) : CtI l D ac A tabX ad rest yX4_worstRing cX4_worstRing 7 .int 3 [.ref (ad 19), .int x1] M r0 M := by
  refine ct_ofI (own := RX4) (by decide +kernel) rfl (Nat.le_of_ble_eq_true rfl) ?_
  intro p e s m args below meth c C
  unfold f_X4_worstRing at hf
  refine a_L (L' := [(0, .ref (ad 19)), (1, .int x1)]) rfl ?_
  refine a_bipush (pc := 0) (v := (-2)) C dX4_worstRing_0 (by decide) ?_
  refine a_istore_n (pc := 2) [(2, .int (-2 : Int32)), (0, .ref (ad 19)), (1, .int x1)] C dX4_worstRing_2 (by decide) rfl ?_
  refine a_iconst (pc := 3) (v := 0) C dX4_worstRing_3 (by decide) ?_
  refine a_istore_n (pc := 4) [(3, .int (0 : Int32)), (2, .int (-2 : Int32)), (0, .ref (ad 19)), (1, .int x1)] C dX4_worstRing_4 (by decide) rfl ?_
  refine a_iconst (pc := 5) (v := 1) C dX4_worstRing_5 (by decide) ?_
  refine a_istore (pc := 6) [(4, .int (1 : Int32)), (3, .int (0 : Int32)), (2, .int (-2 : Int32)), (0, .ref (ad 19)), (1, .int x1)] C dX4_worstRing_6 (by decide) rfl ?_
  refine a_iconst (pc := 8) (v := 0) C dX4_worstRing_8 (by decide) ?_
  refine a_istore (pc := 9) [(5, .int (0 : Int32)), (4, .int (1 : Int32)), (3, .int (0 : Int32)), (2, .int (-2 : Int32)), (0, .ref (ad 19)), (1, .int x1)] C dX4_worstRing_9 (by decide) rfl ?_
  refine a_sub [4, 5, 3, 2, 1, 0] rfl ?_
  refine a_lp 11 (fun a11 : Int32 × Int32 × Int32 × Int32 => [(0, .ref (ad 19)), (1, .int x1), (2, .int a11.1), (3, .int a11.2.1), (4, .int a11.2.2.1), (5, .int a11.2.2.2)]) (fun a11 : Int32 × Int32 × Int32 × Int32 => []) (fun a11 : Int32 × Int32 × Int32 × Int32 => M) (fun k11 a11 hk11 hf => ?_) N ((-2 : Int32), (0 : Int32), (1 : Int32), (0 : Int32)) hf
  refine a_iload (pc := 11) C dX4_worstRing_11 5 rfl ?_
  refine a_aload_n (pc := 13) C dX4_worstRing_13 0 rfl ?_
  refine a_getI (pc := 14) C dX4_worstRing_14 fl_X4_37 tx_19 rfl ?_
  refine a_icmp_ge (pc := 17) 74 C dX4_worstRing_17 (by decide) hf (fun hf => ?_) (fun hf => ?_)
  · refine a_iload_n (pc := 74) C dX4_worstRing_74 2 rfl ?_
    exact a_iret (pc := 75) C dX4_worstRing_75 (Option.some.inj hf) rfl
  · refine a_aload_n (pc := 20) C dX4_worstRing_20 0 rfl ?_
    refine a_iload (pc := 21) C dX4_worstRing_21 5 rfl ?_
    refine a_iload_n (pc := 23) C dX4_worstRing_23 1 rfl ?_
    refine a_callV_Ir (pc := 24) (d' := 2) C dX4_worstRing_24 ml_X4_90 mc_X4_along mv_X4_along tx_19 rfl [.int a11.2.2.2, .int x1] rfl (Nat.le_of_ble_eq_true rfl) (Nat.le_of_ble_eq_true rfl) rfl (Nat.le_of_ble_eq_true rfl) (fun r h => c_X4_along N a11.2.2.2 x1  _  r h) hf (fun v1 hf => ?_)
    refine a_istore (pc := 27) [(6, .int v1), (0, .ref (ad 19)), (1, .int x1), (2, .int a11.1), (3, .int a11.2.1), (4, .int a11.2.2.1), (5, .int a11.2.2.2)] C dX4_worstRing_27 (by decide) rfl ?_
    refine a_iload (pc := 29) C dX4_worstRing_29 0 rfl ?_
    refine a_if_ne (pc := 31) 36 C dX4_worstRing_31 (by decide) hf (fun hf => ?_) (fun hf => ?_)
    · refine a_aload_n (pc := 36) C dX4_worstRing_36 1 rfl ?_
      refine a_getR (pc := 37) C dX4_worstRing_37 fl_X4_15 tx_19 rfl ?_
      refine a_iload (pc := 40) C dX4_worstRing_40 6 rfl ?_
      refine a_iald (pc := 42) C dX4_worstRing_42 tx_21 hf (fun hf => ?_)
      refine a_iload (pc := 43) C dX4_worstRing_43 5 rfl ?_
      refine a_imul (pc := 45) C dX4_worstRing_45 ?_
      refine a_iload_n (pc := 46) C dX4_worstRing_46 4 rfl ?_
      refine a_iload (pc := 47) C dX4_worstRing_47 0 rfl ?_
      refine a_imul (pc := 49) C dX4_worstRing_49 ?_
      refine a_jn 68 (fun a68 : Int32 × Int32 × Int32 => [(0, .ref (ad 19)), (1, .int x1), (2, .int a68.1), (3, .int a68.2.1), (4, .int a68.2.2), (5, .int a11.2.2.2)]) (fun a68 : Int32 × Int32 × Int32 => []) (fun a68 : Int32 × Int32 × Int32 => M) hf (fun a68 hf => ?_) (fun k68 hk68 hf => ?_)
      · refine a_iinc (pc := 68) (v := 1) (fun v3 => [(5, .int v3), (0, .ref (ad 19)), (1, .int x1), (2, .int a68.1), (3, .int a68.2.1), (4, .int a68.2.2)]) C dX4_worstRing_68 5 rfl (by decide) (by decide) (fun _ => rfl) hf (fun v3 hf => ?_)
        refine a_goto (pc := 71) 11 C dX4_worstRing_71 (by decide) ?_
        exact a_sub [1, 2, 3, 4, 5, 0] rfl (hk11 (a68.1, a68.2.1, a68.2.2, v3) hf)
      · refine a_icmp_le (pc := 50) 68 C dX4_worstRing_50 (by decide) hf (fun hf => ?_) (fun hf => ?_)
        · exact a_sub [1, 2, 3, 4, 5, 6] rfl (hk68 (a11.1, a11.2.1, a11.2.2.1) hf)
        · refine a_iload (pc := 53) C dX4_worstRing_53 6 rfl ?_
          refine a_istore_n (pc := 55) [(2, .int a11.2.2.2), (6, .int v1), (0, .ref (ad 19)), (1, .int x1), (3, .int a11.2.1), (4, .int a11.2.2.1), (5, .int a11.2.2.2)] C dX4_worstRing_55 (by decide) rfl ?_
          refine a_aload_n (pc := 56) C dX4_worstRing_56 2 rfl ?_
          refine a_getR (pc := 57) C dX4_worstRing_57 fl_X4_15 tx_19 rfl ?_
          refine a_iload (pc := 60) C dX4_worstRing_60 6 rfl ?_
          refine a_iald (pc := 62) C dX4_worstRing_62 tx_21 hf (fun hf => ?_)
          refine a_nmi hf (fun v4 hf => ?_)
          refine a_istore_n (pc := 63) [(3, .int v4), (2, .int a11.2.2.2), (6, .int v1), (0, .ref (ad 19)), (1, .int x1), (4, .int a11.2.2.1), (5, .int a11.2.2.2)] C dX4_worstRing_63 (by decide) rfl ?_
          refine a_iload (pc := 64) C dX4_worstRing_64 2 rfl ?_
          refine a_istore (pc := 66) [(4, .int v1), (3, .int v4), (2, .int a11.2.2.2), (6, .int v1), (0, .ref (ad 19)), (1, .int x1), (5, .int a11.2.2.2)] C dX4_worstRing_66 (by decide) rfl ?_
          exact a_sub [4, 5, 2, 1, 0, 6] rfl (hk68 (a11.2.2.2, v4, v1) hf)
    · refine a_iconst (pc := 34) (v := (-1)) C dX4_worstRing_34 (by decide) ?_
      exact a_iret (pc := 35) C dX4_worstRing_35 (Option.some.inj hf) rfl
theorem dX4_allows_0 : decode cX4_allows 0 = .ok (.aload_n 0, 1) := by decide +kernel
theorem dX4_allows_1 : decode cX4_allows 1 = .ok (.getfield 27, 3) := by decide +kernel
theorem dX4_allows_4 : decode cX4_allows 4 = .ok (.iload_n 1, 1) := by decide +kernel
theorem dX4_allows_5 : decode cX4_allows 5 = .ok (.iaload, 1) := by decide +kernel
theorem dX4_allows_6 : decode cX4_allows 6 = .ok (.istore 4, 2) := by decide +kernel
theorem dX4_allows_8 : decode cX4_allows 8 = .ok (.iload 4, 2) := by decide +kernel
theorem dX4_allows_10 : decode cX4_allows 10 = .ok (.bipush (-2), 2) := by decide +kernel
theorem dX4_allows_12 : decode cX4_allows 12 = .ok (.if_icmp .eq 29, 3) := by decide +kernel
theorem dX4_allows_15 : decode cX4_allows 15 = .ok (.iload 4, 2) := by decide +kernel
theorem dX4_allows_17 : decode cX4_allows 17 = .ok (.ifCond .lt 28, 3) := by decide +kernel
theorem dX4_allows_20 : decode cX4_allows 20 = .ok (.aload_n 0, 1) := by decide +kernel
theorem dX4_allows_21 : decode cX4_allows 21 = .ok (.getfield 15, 3) := by decide +kernel
theorem dX4_allows_24 : decode cX4_allows 24 = .ok (.iload 4, 2) := by decide +kernel
theorem dX4_allows_26 : decode cX4_allows 26 = .ok (.iaload, 1) := by decide +kernel
theorem dX4_allows_27 : decode cX4_allows 27 = .ok (.iload_n 3, 1) := by decide +kernel
theorem dX4_allows_28 : decode cX4_allows 28 = .ok (.imul, 1) := by decide +kernel
theorem dX4_allows_29 : decode cX4_allows 29 = .ok (.iload_n 2, 1) := by decide +kernel
theorem dX4_allows_30 : decode cX4_allows 30 = .ok (.aload_n 0, 1) := by decide +kernel
theorem dX4_allows_31 : decode cX4_allows 31 = .ok (.iload 4, 2) := by decide +kernel
theorem dX4_allows_33 : decode cX4_allows 33 = .ok (.iload_n 1, 1) := by decide +kernel
theorem dX4_allows_34 : decode cX4_allows 34 = .ok (.invokevirtual 90, 3) := by decide +kernel
theorem dX4_allows_37 : decode cX4_allows 37 = .ok (.imul, 1) := by decide +kernel
theorem dX4_allows_38 : decode cX4_allows 38 = .ok (.if_icmp .gt 7, 3) := by decide +kernel
theorem dX4_allows_41 : decode cX4_allows 41 = .ok (.iconst 1, 1) := by decide +kernel
theorem dX4_allows_42 : decode cX4_allows 42 = .ok (.goto 4, 3) := by decide +kernel
theorem dX4_allows_45 : decode cX4_allows 45 = .ok (.iconst 0, 1) := by decide +kernel
theorem dX4_allows_46 : decode cX4_allows 46 = .ok (.ireturn, 1) := by decide +kernel
def f_X4_allows (N : Nat) (x1 : Int32) (x2 : Int32) (x3 : Int32) (M : Mem) : Option (Int32) := ck (inb x1 1024) (nm (M.1 25 x1.toNatClampNeg) (fun v1 => jn (fun (a41 : Unit) => some (1 : Int32)) (fun (k41 : Unit → Option (Int32)) => if v1 = (-2 : Int32) then (k41 ()) else (jn (fun (a45 : Unit) => some (0 : Int32)) (fun (k45 : Unit → Option (Int32)) => if v1 < 0 then (k45 ()) else (ck (inb v1 64) (bd (f_X4_along N v1 x1 M) (fun v2 => if (x2 * v2) < ((M.1 21 v1.toNatClampNeg) * x3) then (k45 ()) else (k41 ())))))))))
set_option maxRecDepth 100000 in
set_option maxHeartbeats 4000000 in
theorem c_X4_allows {l : Launch} {D : va_G} {ac : Nat → ClassId} {A : Nat → Prop} {ad : Nat → Nat} {rest : va_W} (N : Nat) (x1 : Int32) (x2 : Int32) (x3 : Int32)  (M : Mem) (r0 : Int32) (hf : f_X4_allows N x1 x2 x3 M = some r0) : CtI l D ac A tabX ad rest yX4_allows cX4_allows 5 .boolean 3 [.ref (ad 19), .int x1, .int x2, .int x3] M r0 M := by
  refine ct_ofI (own := RX4) (by decide +kernel) rfl (Nat.le_of_ble_eq_true rfl) ?_
  intro p e s m args below meth c C
  unfold f_X4_allows at hf
  refine a_L (L' := [(0, .ref (ad 19)), (1, .int x1), (2, .int x2), (3, .int x3)]) rfl ?_
  refine a_aload_n (pc := 0) C dX4_allows_0 0 rfl ?_
  refine a_getR (pc := 1) C dX4_allows_1 fl_X4_27 tx_19 rfl ?_
  refine a_iload_n (pc := 4) C dX4_allows_4 1 rfl ?_
  refine a_iald (pc := 5) C dX4_allows_5 tx_25 hf (fun hf => ?_)
  refine a_nmi hf (fun v1 hf => ?_)
  refine a_istore (pc := 6) [(4, .int v1), (0, .ref (ad 19)), (1, .int x1), (2, .int x2), (3, .int x3)] C dX4_allows_6 (by decide) rfl ?_
  refine a_iload (pc := 8) C dX4_allows_8 0 rfl ?_
  refine a_bipush (pc := 10) (v := (-2)) C dX4_allows_10 (by decide) ?_
  refine a_jn 41 (fun a41 : Unit => []) (fun a41 : Unit => []) (fun a41 : Unit => M) hf (fun a41 hf => ?_) (fun k41 hk41 hf => ?_)
  · refine a_iconst (pc := 41) (v := 1) C dX4_allows_41 (by decide) ?_
    refine a_goto (pc := 42) 46 C dX4_allows_42 (by decide) ?_
    exact a_zret (pc := 46) C dX4_allows_46 (Or.inr rfl) (Option.some.inj hf) rfl
  · refine a_icmp_eq (pc := 12) 41 C dX4_allows_12 (by decide) hf (fun hf => ?_) (fun hf => ?_)
    · exact a_sub [] rfl (hk41 () hf)
    · refine a_iload (pc := 15) C dX4_allows_15 0 rfl ?_
      refine a_jn 45 (fun a45 : Unit => []) (fun a45 : Unit => []) (fun a45 : Unit => M) hf (fun a45 hf => ?_) (fun k45 hk45 hf => ?_)
      · refine a_iconst (pc := 45) (v := 0) C dX4_allows_45 (by decide) ?_
        exact a_zret (pc := 46) C dX4_allows_46 (Or.inl rfl) (Option.some.inj hf) rfl
      · refine a_if_lt (pc := 17) 45 C dX4_allows_17 (by decide) hf (fun hf => ?_) (fun hf => ?_)
        · exact a_sub [] rfl (hk45 () hf)
        · refine a_aload_n (pc := 20) C dX4_allows_20 1 rfl ?_
          refine a_getR (pc := 21) C dX4_allows_21 fl_X4_15 tx_19 rfl ?_
          refine a_iload (pc := 24) C dX4_allows_24 0 rfl ?_
          refine a_iald (pc := 26) C dX4_allows_26 tx_21 hf (fun hf => ?_)
          refine a_iload_n (pc := 27) C dX4_allows_27 4 rfl ?_
          refine a_imul (pc := 28) C dX4_allows_28 ?_
          refine a_iload_n (pc := 29) C dX4_allows_29 3 rfl ?_
          refine a_aload_n (pc := 30) C dX4_allows_30 1 rfl ?_
          refine a_iload (pc := 31) C dX4_allows_31 0 rfl ?_
          refine a_iload_n (pc := 33) C dX4_allows_33 2 rfl ?_
          refine a_callV_Ir (pc := 34) (d' := 2) C dX4_allows_34 ml_X4_90 mc_X4_along mv_X4_along tx_19 rfl [.int v1, .int x1] rfl (Nat.le_of_ble_eq_true rfl) (Nat.le_of_ble_eq_true rfl) rfl (Nat.le_of_ble_eq_true rfl) (fun r h => c_X4_along N v1 x1  _  r h) hf (fun v2 hf => ?_)
          refine a_imul (pc := 37) C dX4_allows_37 ?_
          refine a_icmp_gt (pc := 38) 45 C dX4_allows_38 (by decide) hf (fun hf => ?_) (fun hf => ?_)
          · exact a_sub [] rfl (hk45 () hf)
          · exact a_sub [] rfl (hk41 () hf)
theorem dX4_isLessBy_0 : decode cX4_isLessBy 0 = .ok (.iconst 0, 1) := by decide +kernel
theorem dX4_isLessBy_1 : decode cX4_isLessBy 1 = .ok (.istore_n 3, 1) := by decide +kernel
theorem dX4_isLessBy_2 : decode cX4_isLessBy 2 = .ok (.iload_n 3, 1) := by decide +kernel
theorem dX4_isLessBy_3 : decode cX4_isLessBy 3 = .ok (.aload_n 0, 1) := by decide +kernel
theorem dX4_isLessBy_4 : decode cX4_isLessBy 4 = .ok (.getfield 37, 3) := by decide +kernel
theorem dX4_isLessBy_7 : decode cX4_isLessBy 7 = .ok (.if_icmp .ge 47, 3) := by decide +kernel
theorem dX4_isLessBy_10 : decode cX4_isLessBy 10 = .ok (.aload_n 0, 1) := by decide +kernel
theorem dX4_isLessBy_11 : decode cX4_isLessBy 11 = .ok (.getfield 11, 3) := by decide +kernel
theorem dX4_isLessBy_14 : decode cX4_isLessBy 14 = .ok (.iload_n 3, 1) := by decide +kernel
theorem dX4_isLessBy_15 : decode cX4_isLessBy 15 = .ok (.iaload, 1) := by decide +kernel
theorem dX4_isLessBy_16 : decode cX4_isLessBy 16 = .ok (.iload_n 2, 1) := by decide +kernel
theorem dX4_isLessBy_17 : decode cX4_isLessBy 17 = .ok (.iand, 1) := by decide +kernel
theorem dX4_isLessBy_18 : decode cX4_isLessBy 18 = .ok (.ifCond .ne 30, 3) := by decide +kernel
theorem dX4_isLessBy_21 : decode cX4_isLessBy 21 = .ok (.aload_n 0, 1) := by decide +kernel
theorem dX4_isLessBy_22 : decode cX4_isLessBy 22 = .ok (.getfield 15, 3) := by decide +kernel
theorem dX4_isLessBy_25 : decode cX4_isLessBy 25 = .ok (.iload_n 3, 1) := by decide +kernel
theorem dX4_isLessBy_26 : decode cX4_isLessBy 26 = .ok (.iaload, 1) := by decide +kernel
theorem dX4_isLessBy_27 : decode cX4_isLessBy 27 = .ok (.aload_n 0, 1) := by decide +kernel
theorem dX4_isLessBy_28 : decode cX4_isLessBy 28 = .ok (.getfield 100, 3) := by decide +kernel
theorem dX4_isLessBy_31 : decode cX4_isLessBy 31 = .ok (.imul, 1) := by decide +kernel
theorem dX4_isLessBy_32 : decode cX4_isLessBy 32 = .ok (.aload_n 0, 1) := by decide +kernel
theorem dX4_isLessBy_33 : decode cX4_isLessBy 33 = .ok (.getfield 97, 3) := by decide +kernel
theorem dX4_isLessBy_36 : decode cX4_isLessBy 36 = .ok (.aload_n 0, 1) := by decide +kernel
theorem dX4_isLessBy_37 : decode cX4_isLessBy 37 = .ok (.iload_n 3, 1) := by decide +kernel
theorem dX4_isLessBy_38 : decode cX4_isLessBy 38 = .ok (.iload_n 1, 1) := by decide +kernel
theorem dX4_isLessBy_39 : decode cX4_isLessBy 39 = .ok (.invokevirtual 90, 3) := by decide +kernel
theorem dX4_isLessBy_42 : decode cX4_isLessBy 42 = .ok (.imul, 1) := by decide +kernel
theorem dX4_isLessBy_43 : decode cX4_isLessBy 43 = .ok (.if_icmp .lt 5, 3) := by decide +kernel
theorem dX4_isLessBy_46 : decode cX4_isLessBy 46 = .ok (.iconst 0, 1) := by decide +kernel
theorem dX4_isLessBy_47 : decode cX4_isLessBy 47 = .ok (.ireturn, 1) := by decide +kernel
theorem dX4_isLessBy_48 : decode cX4_isLessBy 48 = .ok (.iinc 3 1, 3) := by decide +kernel
theorem dX4_isLessBy_51 : decode cX4_isLessBy 51 = .ok (.goto (-49), 3) := by decide +kernel
theorem dX4_isLessBy_54 : decode cX4_isLessBy 54 = .ok (.iconst 1, 1) := by decide +kernel
theorem dX4_isLessBy_55 : decode cX4_isLessBy 55 = .ok (.ireturn, 1) := by decide +kernel
def f_X4_isLessBy (N : Nat) (x1 : Int32) (x2 : Int32) (M : Mem) : Option (Int32) := lp (fun (k2 : Int32 → Option (Int32)) (a2 : Int32) => if (M.1 19 0) ≤ a2 then (some (1 : Int32)) else (ck (inb a2 64) (jn (fun (a48 : Unit) => nm (a2 + (1 : Int32)) (fun v1 => k2 v1)) (fun (k48 : Unit → Option (Int32)) => if ((M.1 20 a2.toNatClampNeg) &&& x2) = 0 then (ck (inb a2 64) (bd (f_X4_along N a2 x1 M) (fun v2 => if ((M.1 21 a2.toNatClampNeg) * (M.1 19 4)) < ((M.1 19 3) * v2) then (k48 ()) else (some (0 : Int32))))) else (k48 ()))))) N (0 : Int32)
set_option maxRecDepth 100000 in
set_option maxHeartbeats 4000000 in
theorem c_X4_isLessBy {l : Launch} {D : va_G} {ac : Nat → ClassId} {A : Nat → Prop} {ad : Nat → Nat} {rest : va_W} (N : Nat) (x1 : Int32) (x2 : Int32)  (M : Mem) (r0 : Int32) (hf : f_X4_isLessBy N x1 x2 M = some r0) : CtI l D ac A tabX ad rest yX4_isLessBy cX4_isLessBy 4 .boolean 3 [.ref (ad 19), .int x1, .int x2] M r0 M := by
  refine ct_ofI (own := RX4) (by decide +kernel) rfl (Nat.le_of_ble_eq_true rfl) ?_
  intro p e s m args below meth c C
  unfold f_X4_isLessBy at hf
  refine a_L (L' := [(0, .ref (ad 19)), (1, .int x1), (2, .int x2)]) rfl ?_
  refine a_iconst (pc := 0) (v := 0) C dX4_isLessBy_0 (by decide) ?_
  refine a_istore_n (pc := 1) [(3, .int (0 : Int32)), (0, .ref (ad 19)), (1, .int x1), (2, .int x2)] C dX4_isLessBy_1 (by decide) rfl ?_
  refine a_sub [1, 2, 3, 0] rfl ?_
  refine a_lp 2 (fun a2 : Int32 => [(0, .ref (ad 19)), (1, .int x1), (2, .int x2), (3, .int a2)]) (fun a2 : Int32 => []) (fun a2 : Int32 => M) (fun k2 a2 hk2 hf => ?_) N (0 : Int32) hf
  refine a_iload_n (pc := 2) C dX4_isLessBy_2 3 rfl ?_
  refine a_aload_n (pc := 3) C dX4_isLessBy_3 0 rfl ?_
  refine a_getI (pc := 4) C dX4_isLessBy_4 fl_X4_37 tx_19 rfl ?_
  refine a_icmp_ge (pc := 7) 54 C dX4_isLessBy_7 (by decide) hf (fun hf => ?_) (fun hf => ?_)
  · refine a_iconst (pc := 54) (v := 1) C dX4_isLessBy_54 (by decide) ?_
    exact a_zret (pc := 55) C dX4_isLessBy_55 (Or.inr rfl) (Option.some.inj hf) rfl
  · refine a_aload_n (pc := 10) C dX4_isLessBy_10 0 rfl ?_
    refine a_getR (pc := 11) C dX4_isLessBy_11 fl_X4_11 tx_19 rfl ?_
    refine a_iload_n (pc := 14) C dX4_isLessBy_14 3 rfl ?_
    refine a_iald (pc := 15) C dX4_isLessBy_15 tx_20 hf (fun hf => ?_)
    refine a_iload_n (pc := 16) C dX4_isLessBy_16 2 rfl ?_
    refine a_iand (pc := 17) C dX4_isLessBy_17 ?_
    refine a_jn 48 (fun a48 : Unit => [(0, .ref (ad 19)), (1, .int x1), (2, .int x2), (3, .int a2)]) (fun a48 : Unit => []) (fun a48 : Unit => M) hf (fun a48 hf => ?_) (fun k48 hk48 hf => ?_)
    · refine a_iinc (pc := 48) (v := 1) (fun v1 => [(3, .int v1), (0, .ref (ad 19)), (1, .int x1), (2, .int x2)]) C dX4_isLessBy_48 3 rfl (by decide) (by decide) (fun _ => rfl) hf (fun v1 hf => ?_)
      refine a_goto (pc := 51) 2 C dX4_isLessBy_51 (by decide) ?_
      exact a_sub [1, 2, 3, 0] rfl (hk2 v1 hf)
    · refine a_if_ne (pc := 18) 48 C dX4_isLessBy_18 (by decide) hf (fun hf => ?_) (fun hf => ?_)
      · exact a_sub [0, 1, 2, 3] rfl (hk48 () hf)
      · refine a_aload_n (pc := 21) C dX4_isLessBy_21 0 rfl ?_
        refine a_getR (pc := 22) C dX4_isLessBy_22 fl_X4_15 tx_19 rfl ?_
        refine a_iload_n (pc := 25) C dX4_isLessBy_25 3 rfl ?_
        refine a_iald (pc := 26) C dX4_isLessBy_26 tx_21 hf (fun hf => ?_)
        refine a_aload_n (pc := 27) C dX4_isLessBy_27 0 rfl ?_
        refine a_getI (pc := 28) C dX4_isLessBy_28 fl_X4_100 tx_19 rfl ?_
        refine a_imul (pc := 31) C dX4_isLessBy_31 ?_
        refine a_aload_n (pc := 32) C dX4_isLessBy_32 0 rfl ?_
        refine a_getI (pc := 33) C dX4_isLessBy_33 fl_X4_97 tx_19 rfl ?_
        refine a_aload_n (pc := 36) C dX4_isLessBy_36 0 rfl ?_
        refine a_iload_n (pc := 37) C dX4_isLessBy_37 3 rfl ?_
        refine a_iload_n (pc := 38) C dX4_isLessBy_38 1 rfl ?_
        refine a_callV_Ir (pc := 39) (d' := 2) C dX4_isLessBy_39 ml_X4_90 mc_X4_along mv_X4_along tx_19 rfl [.int a2, .int x1] rfl (Nat.le_of_ble_eq_true rfl) (Nat.le_of_ble_eq_true rfl) rfl (Nat.le_of_ble_eq_true rfl) (fun r h => c_X4_along N a2 x1  _  r h) hf (fun v2 hf => ?_)
        refine a_imul (pc := 42) C dX4_isLessBy_42 ?_
        refine a_icmp_lt (pc := 43) 48 C dX4_isLessBy_43 (by decide) hf (fun hf => ?_) (fun hf => ?_)
        · exact a_sub [0, 1, 2, 3] rfl (hk48 () hf)
        · refine a_iconst (pc := 46) (v := 0) C dX4_isLessBy_46 (by decide) ?_
          exact a_zret (pc := 47) C dX4_isLessBy_47 (Or.inl rfl) (Option.some.inj hf) rfl
theorem dX4_roomBy_0 : decode cX4_roomBy 0 = .ok (.bipush 9, 2) := by decide +kernel
theorem dX4_roomBy_2 : decode cX4_roomBy 2 = .ok (.istore_n 3, 1) := by decide +kernel
theorem dX4_roomBy_3 : decode cX4_roomBy 3 = .ok (.iconst 0, 1) := by decide +kernel
theorem dX4_roomBy_4 : decode cX4_roomBy 4 = .ok (.istore 4, 2) := by decide +kernel
theorem dX4_roomBy_6 : decode cX4_roomBy 6 = .ok (.iload 4, 2) := by decide +kernel
theorem dX4_roomBy_8 : decode cX4_roomBy 8 = .ok (.aload_n 0, 1) := by decide +kernel
theorem dX4_roomBy_9 : decode cX4_roomBy 9 = .ok (.getfield 37, 3) := by decide +kernel
theorem dX4_roomBy_12 : decode cX4_roomBy 12 = .ok (.if_icmp .ge 94, 3) := by decide +kernel
theorem dX4_roomBy_15 : decode cX4_roomBy 15 = .ok (.aload_n 0, 1) := by decide +kernel
theorem dX4_roomBy_16 : decode cX4_roomBy 16 = .ok (.getfield 11, 3) := by decide +kernel
theorem dX4_roomBy_19 : decode cX4_roomBy 19 = .ok (.iload 4, 2) := by decide +kernel
theorem dX4_roomBy_21 : decode cX4_roomBy 21 = .ok (.iaload, 1) := by decide +kernel
theorem dX4_roomBy_22 : decode cX4_roomBy 22 = .ok (.iload_n 2, 1) := by decide +kernel
theorem dX4_roomBy_23 : decode cX4_roomBy 23 = .ok (.iand, 1) := by decide +kernel
theorem dX4_roomBy_24 : decode cX4_roomBy 24 = .ok (.ifCond .eq 76, 3) := by decide +kernel
theorem dX4_roomBy_27 : decode cX4_roomBy 27 = .ok (.aload_n 0, 1) := by decide +kernel
theorem dX4_roomBy_28 : decode cX4_roomBy 28 = .ok (.getfield 11, 3) := by decide +kernel
theorem dX4_roomBy_31 : decode cX4_roomBy 31 = .ok (.iload 4, 2) := by decide +kernel
theorem dX4_roomBy_33 : decode cX4_roomBy 33 = .ok (.iaload, 1) := by decide +kernel
theorem dX4_roomBy_34 : decode cX4_roomBy 34 = .ok (.iload_n 2, 1) := by decide +kernel
theorem dX4_roomBy_35 : decode cX4_roomBy 35 = .ok (.if_icmp .ne 12, 3) := by decide +kernel
theorem dX4_roomBy_38 : decode cX4_roomBy 38 = .ok (.iconst 2, 1) := by decide +kernel
theorem dX4_roomBy_39 : decode cX4_roomBy 39 = .ok (.aload_n 0, 1) := by decide +kernel
theorem dX4_roomBy_40 : decode cX4_roomBy 40 = .ok (.getfield 100, 3) := by decide +kernel
theorem dX4_roomBy_43 : decode cX4_roomBy 43 = .ok (.imul, 1) := by decide +kernel
theorem dX4_roomBy_44 : decode cX4_roomBy 44 = .ok (.goto 7, 3) := by decide +kernel
theorem dX4_roomBy_47 : decode cX4_roomBy 47 = .ok (.aload_n 0, 1) := by decide +kernel
theorem dX4_roomBy_48 : decode cX4_roomBy 48 = .ok (.getfield 100, 3) := by decide +kernel
theorem dX4_roomBy_51 : decode cX4_roomBy 51 = .ok (.istore 5, 2) := by decide +kernel
theorem dX4_roomBy_53 : decode cX4_roomBy 53 = .ok (.aload_n 0, 1) := by decide +kernel
theorem dX4_roomBy_54 : decode cX4_roomBy 54 = .ok (.getfield 97, 3) := by decide +kernel
theorem dX4_roomBy_57 : decode cX4_roomBy 57 = .ok (.aload_n 0, 1) := by decide +kernel
theorem dX4_roomBy_58 : decode cX4_roomBy 58 = .ok (.iload 4, 2) := by decide +kernel
theorem dX4_roomBy_60 : decode cX4_roomBy 60 = .ok (.iload_n 1, 1) := by decide +kernel
theorem dX4_roomBy_61 : decode cX4_roomBy 61 = .ok (.invokevirtual 90, 3) := by decide +kernel
theorem dX4_roomBy_64 : decode cX4_roomBy 64 = .ok (.imul, 1) := by decide +kernel
theorem dX4_roomBy_65 : decode cX4_roomBy 65 = .ok (.aload_n 0, 1) := by decide +kernel
theorem dX4_roomBy_66 : decode cX4_roomBy 66 = .ok (.getfield 15, 3) := by decide +kernel
theorem dX4_roomBy_69 : decode cX4_roomBy 69 = .ok (.iload 4, 2) := by decide +kernel
theorem dX4_roomBy_71 : decode cX4_roomBy 71 = .ok (.iaload, 1) := by decide +kernel
theorem dX4_roomBy_72 : decode cX4_roomBy 72 = .ok (.aload_n 0, 1) := by decide +kernel
theorem dX4_roomBy_73 : decode cX4_roomBy 73 = .ok (.getfield 100, 3) := by decide +kernel
theorem dX4_roomBy_76 : decode cX4_roomBy 76 = .ok (.imul, 1) := by decide +kernel
theorem dX4_roomBy_77 : decode cX4_roomBy 77 = .ok (.isub, 1) := by decide +kernel
theorem dX4_roomBy_78 : decode cX4_roomBy 78 = .ok (.istore 6, 2) := by decide +kernel
theorem dX4_roomBy_80 : decode cX4_roomBy 80 = .ok (.iload 5, 2) := by decide +kernel
theorem dX4_roomBy_82 : decode cX4_roomBy 82 = .ok (.iconst 1, 1) := by decide +kernel
theorem dX4_roomBy_83 : decode cX4_roomBy 83 = .ok (.if_icmp .ge 7, 3) := by decide +kernel
theorem dX4_roomBy_86 : decode cX4_roomBy 86 = .ok (.iconst 0, 1) := by decide +kernel
theorem dX4_roomBy_87 : decode cX4_roomBy 87 = .ok (.goto 12, 3) := by decide +kernel
theorem dX4_roomBy_90 : decode cX4_roomBy 90 = .ok (.iload_n 3, 1) := by decide +kernel
theorem dX4_roomBy_91 : decode cX4_roomBy 91 = .ok (.iload 6, 2) := by decide +kernel
theorem dX4_roomBy_93 : decode cX4_roomBy 93 = .ok (.iload 5, 2) := by decide +kernel
theorem dX4_roomBy_95 : decode cX4_roomBy 95 = .ok (.idiv, 1) := by decide +kernel
theorem dX4_roomBy_96 : decode cX4_roomBy 96 = .ok (.invokestatic 84, 3) := by decide +kernel
theorem dX4_roomBy_99 : decode cX4_roomBy 99 = .ok (.istore_n 3, 1) := by decide +kernel
theorem dX4_roomBy_100 : decode cX4_roomBy 100 = .ok (.iinc 4 1, 3) := by decide +kernel
theorem dX4_roomBy_103 : decode cX4_roomBy 103 = .ok (.goto (-97), 3) := by decide +kernel
theorem dX4_roomBy_106 : decode cX4_roomBy 106 = .ok (.iload_n 3, 1) := by decide +kernel
theorem dX4_roomBy_107 : decode cX4_roomBy 107 = .ok (.ireturn, 1) := by decide +kernel
def f_X4_roomBy (N : Nat) (x1 : Int32) (x2 : Int32) (M : Mem) : Option (Int32) := lp (fun (k6 : (Int32 × Int32) → Option (Int32)) (a6 : Int32 × Int32) => if (M.1 19 0) ≤ a6.2 then (some a6.1) else (ck (inb a6.2 64) (jn (fun (a100 : Int32) => nm (a6.2 + (1 : Int32)) (fun v1 => k6 (a100, v1))) (fun (k100 : Int32 → Option (Int32)) => if ((M.1 20 a6.2.toNatClampNeg) &&& x2) = 0 then (k100 a6.1) else (ck (inb a6.2 64) (jn (fun (a51 : Int32) => bd (f_X4_along N a6.2 x1 M) (fun v2 => ck (inb a6.2 64) (nm (((M.1 19 3) * v2) - ((M.1 21 a6.2.toNatClampNeg) * (M.1 19 4))) (fun v4 => jn (fun (a99 : Int32) => k100 a99) (fun (k99 : Int32 → Option (Int32)) => if (1 : Int32) ≤ a51 then (ck (¬ a51 = 0) (bd (f_J9_min_7cf53 N a6.1 (v4 / a51) M) (fun v5 => k99 v5))) else (k99 (0 : Int32))))))) (fun (k51 : Int32 → Option (Int32)) => if (M.1 20 a6.2.toNatClampNeg) = x2 then (k51 ((2 : Int32) * (M.1 19 4))) else (k51 (M.1 19 4))))))))) N ((9 : Int32), (0 : Int32))
set_option maxRecDepth 100000 in
set_option maxHeartbeats 4000000 in
theorem c_X4_roomBy {l : Launch} {D : va_G} {ac : Nat → ClassId} {A : Nat → Prop} {ad : Nat → Nat} {rest : va_W} (N : Nat) (x1 : Int32) (x2 : Int32)  (M : Mem) (r0 : Int32) (hf : f_X4_roomBy N x1 x2 M = some r0) : CtI l D ac A tabX ad rest yX4_roomBy cX4_roomBy 7 .int 3 [.ref (ad 19), .int x1, .int x2] M r0 M := by
  refine ct_ofI (own := RX4) (by decide +kernel) rfl (Nat.le_of_ble_eq_true rfl) ?_
  intro p e s m args below meth c C
  unfold f_X4_roomBy at hf
  refine a_L (L' := [(0, .ref (ad 19)), (1, .int x1), (2, .int x2)]) rfl ?_
  refine a_bipush (pc := 0) (v := 9) C dX4_roomBy_0 (by decide) ?_
  refine a_istore_n (pc := 2) [(3, .int (9 : Int32)), (0, .ref (ad 19)), (1, .int x1), (2, .int x2)] C dX4_roomBy_2 (by decide) rfl ?_
  refine a_iconst (pc := 3) (v := 0) C dX4_roomBy_3 (by decide) ?_
  refine a_istore (pc := 4) [(4, .int (0 : Int32)), (3, .int (9 : Int32)), (0, .ref (ad 19)), (1, .int x1), (2, .int x2)] C dX4_roomBy_4 (by decide) rfl ?_
  refine a_sub [2, 3, 4, 1, 0] rfl ?_
  refine a_lp 6 (fun a6 : Int32 × Int32 => [(0, .ref (ad 19)), (1, .int x1), (2, .int x2), (3, .int a6.1), (4, .int a6.2)]) (fun a6 : Int32 × Int32 => []) (fun a6 : Int32 × Int32 => M) (fun k6 a6 hk6 hf => ?_) N ((9 : Int32), (0 : Int32)) hf
  refine a_iload (pc := 6) C dX4_roomBy_6 4 rfl ?_
  refine a_aload_n (pc := 8) C dX4_roomBy_8 0 rfl ?_
  refine a_getI (pc := 9) C dX4_roomBy_9 fl_X4_37 tx_19 rfl ?_
  refine a_icmp_ge (pc := 12) 106 C dX4_roomBy_12 (by decide) hf (fun hf => ?_) (fun hf => ?_)
  · refine a_iload_n (pc := 106) C dX4_roomBy_106 3 rfl ?_
    exact a_iret (pc := 107) C dX4_roomBy_107 (Option.some.inj hf) rfl
  · refine a_aload_n (pc := 15) C dX4_roomBy_15 0 rfl ?_
    refine a_getR (pc := 16) C dX4_roomBy_16 fl_X4_11 tx_19 rfl ?_
    refine a_iload (pc := 19) C dX4_roomBy_19 4 rfl ?_
    refine a_iald (pc := 21) C dX4_roomBy_21 tx_20 hf (fun hf => ?_)
    refine a_iload_n (pc := 22) C dX4_roomBy_22 2 rfl ?_
    refine a_iand (pc := 23) C dX4_roomBy_23 ?_
    refine a_jn 100 (fun a100 : Int32 => [(0, .ref (ad 19)), (1, .int x1), (2, .int x2), (3, .int a100), (4, .int a6.2)]) (fun a100 : Int32 => []) (fun a100 : Int32 => M) hf (fun a100 hf => ?_) (fun k100 hk100 hf => ?_)
    · refine a_iinc (pc := 100) (v := 1) (fun v1 => [(4, .int v1), (0, .ref (ad 19)), (1, .int x1), (2, .int x2), (3, .int a100)]) C dX4_roomBy_100 4 rfl (by decide) (by decide) (fun _ => rfl) hf (fun v1 hf => ?_)
      refine a_goto (pc := 103) 6 C dX4_roomBy_103 (by decide) ?_
      exact a_sub [1, 2, 3, 4, 0] rfl (hk6 (a100, v1) hf)
    · refine a_if_eq (pc := 24) 100 C dX4_roomBy_24 (by decide) hf (fun hf => ?_) (fun hf => ?_)
      · exact a_sub [0, 1, 2, 3, 4] rfl (hk100 a6.1 hf)
      · refine a_aload_n (pc := 27) C dX4_roomBy_27 0 rfl ?_
        refine a_getR (pc := 28) C dX4_roomBy_28 fl_X4_11 tx_19 rfl ?_
        refine a_iload (pc := 31) C dX4_roomBy_31 4 rfl ?_
        refine a_iald (pc := 33) C dX4_roomBy_33 tx_20 hf (fun hf => ?_)
        refine a_iload_n (pc := 34) C dX4_roomBy_34 2 rfl ?_
        refine a_jn 51 (fun a51 : Int32 => [(0, .ref (ad 19)), (1, .int x1), (2, .int x2), (3, .int a6.1), (4, .int a6.2)]) (fun a51 : Int32 => [.int a51]) (fun a51 : Int32 => M) hf (fun a51 hf => ?_) (fun k51 hk51 hf => ?_)
        · refine a_istore (pc := 51) [(5, .int a51), (0, .ref (ad 19)), (1, .int x1), (2, .int x2), (3, .int a6.1), (4, .int a6.2)] C dX4_roomBy_51 (by decide) rfl ?_
          refine a_aload_n (pc := 53) C dX4_roomBy_53 1 rfl ?_
          refine a_getI (pc := 54) C dX4_roomBy_54 fl_X4_97 tx_19 rfl ?_
          refine a_aload_n (pc := 57) C dX4_roomBy_57 1 rfl ?_
          refine a_iload (pc := 58) C dX4_roomBy_58 5 rfl ?_
          refine a_iload_n (pc := 60) C dX4_roomBy_60 2 rfl ?_
          refine a_callV_Ir (pc := 61) (d' := 2) C dX4_roomBy_61 ml_X4_90 mc_X4_along mv_X4_along tx_19 rfl [.int a6.2, .int x1] rfl (Nat.le_of_ble_eq_true rfl) (Nat.le_of_ble_eq_true rfl) rfl (Nat.le_of_ble_eq_true rfl) (fun r h => c_X4_along N a6.2 x1  _  r h) hf (fun v2 hf => ?_)
          refine a_imul (pc := 64) C dX4_roomBy_64 ?_
          refine a_aload_n (pc := 65) C dX4_roomBy_65 1 rfl ?_
          refine a_getR (pc := 66) C dX4_roomBy_66 fl_X4_15 tx_19 rfl ?_
          refine a_iload (pc := 69) C dX4_roomBy_69 5 rfl ?_
          refine a_iald (pc := 71) C dX4_roomBy_71 tx_21 hf (fun hf => ?_)
          refine a_aload_n (pc := 72) C dX4_roomBy_72 1 rfl ?_
          refine a_getI (pc := 73) C dX4_roomBy_73 fl_X4_100 tx_19 rfl ?_
          refine a_imul (pc := 76) C dX4_roomBy_76 ?_
          refine a_isub (pc := 77) C dX4_roomBy_77 ?_
          refine a_nmi hf (fun v4 hf => ?_)
          refine a_istore (pc := 78) [(6, .int v4), (5, .int a51), (0, .ref (ad 19)), (1, .int x1), (2, .int x2), (3, .int a6.1), (4, .int a6.2)] C dX4_roomBy_78 (by decide) rfl ?_
          refine a_iload (pc := 80) C dX4_roomBy_80 1 rfl ?_
          refine a_iconst (pc := 82) (v := 1) C dX4_roomBy_82 (by decide) ?_
          refine a_jn 99 (fun a99 : Int32 => [(0, .ref (ad 19)), (1, .int x1), (2, .int x2), (4, .int a6.2)]) (fun a99 : Int32 => [.int a99]) (fun a99 : Int32 => M) hf (fun a99 hf => ?_) (fun k99 hk99 hf => ?_)
          · refine a_istore_n (pc := 99) [(3, .int a99), (0, .ref (ad 19)), (1, .int x1), (2, .int x2), (4, .int a6.2)] C dX4_roomBy_99 (by decide) rfl ?_
            exact a_sub [1, 2, 3, 0, 4] rfl (hk100 a99 hf)
          · refine a_icmp_ge (pc := 83) 90 C dX4_roomBy_83 (by decide) hf (fun hf => ?_) (fun hf => ?_)
            · refine a_iload_n (pc := 90) C dX4_roomBy_90 5 rfl ?_
              refine a_iload (pc := 91) C dX4_roomBy_91 0 rfl ?_
              refine a_iload (pc := 93) C dX4_roomBy_93 1 rfl ?_
              refine a_idiv (pc := 95) C dX4_roomBy_95 hf (fun hf => ?_)
              refine a_callS_Ir (pc := 96) (d' := 1) C dX4_roomBy_96 ml_X4_84 mc_J9_min_7cf53 ms_J9_min_7cf53 [.int a6.1, .int (v4 / a51)] rfl (Nat.le_of_ble_eq_true rfl) (Nat.le_of_ble_eq_true rfl) rfl (Nat.le_of_ble_eq_true rfl) (fun r h => c_J9_min_7cf53 N a6.1 (v4 / a51)  _  r h) hf (fun v5 hf => ?_)
              exact a_sub [2, 3, 4, 6] rfl (hk99 v5 hf)
            · refine a_iconst (pc := 86) (v := 0) C dX4_roomBy_86 (by decide) ?_
              refine a_goto (pc := 87) 99 C dX4_roomBy_87 (by decide) ?_
              exact a_sub [2, 3, 4, 6] rfl (hk99 (0 : Int32) hf)
        · refine a_icmp_ne (pc := 35) 47 C dX4_roomBy_35 (by decide) hf (fun hf => ?_) (fun hf => ?_)
          · refine a_aload_n (pc := 47) C dX4_roomBy_47 0 rfl ?_
            refine a_getI (pc := 48) C dX4_roomBy_48 fl_X4_100 tx_19 rfl ?_
            exact a_sub [0, 1, 2, 3, 4] rfl (hk51 (M.1 19 4) hf)
          · refine a_iconst (pc := 38) (v := 2) C dX4_roomBy_38 (by decide) ?_
            refine a_aload_n (pc := 39) C dX4_roomBy_39 0 rfl ?_
            refine a_getI (pc := 40) C dX4_roomBy_40 fl_X4_100 tx_19 rfl ?_
            refine a_imul (pc := 43) C dX4_roomBy_43 ?_
            refine a_goto (pc := 44) 51 C dX4_roomBy_44 (by decide) ?_
            exact a_sub [0, 1, 2, 3, 4] rfl (hk51 ((2 : Int32) * (M.1 19 4)) hf)
theorem dX6_joinUnlessJoined_0 : decode cX6_joinUnlessJoined 0 = .ok (.aload_n 0, 1) := by decide +kernel
theorem dX6_joinUnlessJoined_1 : decode cX6_joinUnlessJoined 1 = .ok (.iload_n 3, 1) := by decide +kernel
theorem dX6_joinUnlessJoined_2 : decode cX6_joinUnlessJoined 2 = .ok (.iload 4, 2) := by decide +kernel
theorem dX6_joinUnlessJoined_4 : decode cX6_joinUnlessJoined 4 = .ok (.invokevirtual 78, 3) := by decide +kernel
theorem dX6_joinUnlessJoined_7 : decode cX6_joinUnlessJoined 7 = .ok (.ifCond .ne 12, 3) := by decide +kernel
theorem dX6_joinUnlessJoined_10 : decode cX6_joinUnlessJoined 10 = .ok (.aload_n 0, 1) := by decide +kernel
theorem dX6_joinUnlessJoined_11 : decode cX6_joinUnlessJoined 11 = .ok (.iload_n 1, 1) := by decide +kernel
theorem dX6_joinUnlessJoined_12 : decode cX6_joinUnlessJoined 12 = .ok (.iload_n 2, 1) := by decide +kernel
theorem dX6_joinUnlessJoined_13 : decode cX6_joinUnlessJoined 13 = .ok (.iload_n 3, 1) := by decide +kernel
theorem dX6_joinUnlessJoined_14 : decode cX6_joinUnlessJoined 14 = .ok (.iload 4, 2) := by decide +kernel
theorem dX6_joinUnlessJoined_16 : decode cX6_joinUnlessJoined 16 = .ok (.invokevirtual 82, 3) := by decide +kernel
theorem dX6_joinUnlessJoined_19 : decode cX6_joinUnlessJoined 19 = .ok (.return_, 1) := by decide +kernel
def f_X6_joinUnlessJoined (N : Nat) (c0 : Nat) (x1 : Int32) (x2 : Int32) (x3 : Int32) (x4 : Int32) (M : Mem) : Option (Mem) := bd (f_X1_areJoined N c0 x3 x4 M) (fun v1 => if v1 = 0 then (bd (f_X1_addLine N c0 x1 x2 x3 x4 M) (fun M4 => some M4)) else (some M))
set_option maxRecDepth 100000 in
set_option maxHeartbeats 4000000 in
theorem c_X6_joinUnlessJoined {l : Launch} {D : va_G} {ac : Nat → ClassId} {A : Nat → Prop} {ad : Nat → Nat} {rest : va_W} (N : Nat) (c0 : Nat) (x1 : Int32) (x2 : Int32) (x3 : Int32) (x4 : Int32) (hc0 : NetAt tabX c0) (M : Mem)  (M0 : Mem) (hf : f_X6_joinUnlessJoined N c0 x1 x2 x3 x4 M = some M0) : CtV l D ac A tabX ad rest yX6_joinUnlessJoined cX6_joinUnlessJoined 5  3 [.ref (ad c0), .int x1, .int x2, .int x3, .int x4] M  M0 := by
  refine ct_ofV (own := RX6) (by decide +kernel) rfl (Nat.le_of_ble_eq_true rfl) ?_
  intro p e s m args below meth c C
  unfold f_X6_joinUnlessJoined at hf
  refine a_L (L' := [(0, .ref (ad c0)), (1, .int x1), (2, .int x2), (3, .int x3), (4, .int x4)]) rfl ?_
  refine a_aload_n (pc := 0) C dX6_joinUnlessJoined_0 0 rfl ?_
  refine a_iload_n (pc := 1) C dX6_joinUnlessJoined_1 3 rfl ?_
  refine a_iload (pc := 2) C dX6_joinUnlessJoined_2 4 rfl ?_
  refine a_callV_Ir (pc := 4) (d' := 2) C dX6_joinUnlessJoined_4 ml_X6_78 mc_X1_areJoined mv_X1_areJoined hc0.1 rfl [.int x3, .int x4] rfl (Nat.le_of_ble_eq_true rfl) (Nat.le_of_ble_eq_true rfl) rfl (Nat.le_of_ble_eq_true rfl) (fun r h => c_X1_areJoined N c0 x3 x4 hc0 _  r h) hf (fun v1 hf => ?_)
  refine a_if_ne (pc := 7) 19 C dX6_joinUnlessJoined_7 (by decide) hf (fun hf => ?_) (fun hf => ?_)
  · exact a_vret (pc := 19) C dX6_joinUnlessJoined_19 (Option.some.inj hf)
  · refine a_aload_n (pc := 10) C dX6_joinUnlessJoined_10 0 rfl ?_
    refine a_iload_n (pc := 11) C dX6_joinUnlessJoined_11 1 rfl ?_
    refine a_iload_n (pc := 12) C dX6_joinUnlessJoined_12 2 rfl ?_
    refine a_iload_n (pc := 13) C dX6_joinUnlessJoined_13 3 rfl ?_
    refine a_iload (pc := 14) C dX6_joinUnlessJoined_14 4 rfl ?_
    refine a_callV_V (pc := 16) (d' := 2) C dX6_joinUnlessJoined_16 ml_X6_82 mc_X1_addLine mv_X1_addLine hc0.1 rfl [.int x1, .int x2, .int x3, .int x4] rfl (Nat.le_of_ble_eq_true rfl) (Nat.le_of_ble_eq_true rfl) rfl (Nat.le_of_ble_eq_true rfl) (fun M' h => c_X1_addLine N c0 x1 x2 x3 x4 hc0 _  M' h) hf (fun M4 hf => ?_)
    exact a_vret (pc := 19) C dX6_joinUnlessJoined_19 (Option.some.inj hf)
theorem dX6_readNumber_0 : decode cX6_readNumber 0 = .ok (.aload_n 0, 1) := by decide +kernel
theorem dX6_readNumber_1 : decode cX6_readNumber 1 = .ok (.invokevirtual 22, 3) := by decide +kernel
theorem dX6_readNumber_4 : decode cX6_readNumber 4 = .ok (.aload_n 0, 1) := by decide +kernel
theorem dX6_readNumber_5 : decode cX6_readNumber 5 = .ok (.getfield 32, 3) := by decide +kernel
theorem dX6_readNumber_8 : decode cX6_readNumber 8 = .ok (.iconst 2, 1) := by decide +kernel
theorem dX6_readNumber_9 : decode cX6_readNumber 9 = .ok (.if_icmp .ne 26, 3) := by decide +kernel
theorem dX6_readNumber_12 : decode cX6_readNumber 12 = .ok (.aload_n 0, 1) := by decide +kernel
theorem dX6_readNumber_13 : decode cX6_readNumber 13 = .ok (.getfield 94, 3) := by decide +kernel
theorem dX6_readNumber_16 : decode cX6_readNumber 16 = .ok (.iload_n 1, 1) := by decide +kernel
theorem dX6_readNumber_17 : decode cX6_readNumber 17 = .ok (.if_icmp .lt 18, 3) := by decide +kernel
theorem dX6_readNumber_20 : decode cX6_readNumber 20 = .ok (.aload_n 0, 1) := by decide +kernel
theorem dX6_readNumber_21 : decode cX6_readNumber 21 = .ok (.getfield 94, 3) := by decide +kernel
theorem dX6_readNumber_24 : decode cX6_readNumber 24 = .ok (.iload_n 2, 1) := by decide +kernel
theorem dX6_readNumber_25 : decode cX6_readNumber 25 = .ok (.if_icmp .gt 10, 3) := by decide +kernel
theorem dX6_readNumber_28 : decode cX6_readNumber 28 = .ok (.aload_n 0, 1) := by decide +kernel
theorem dX6_readNumber_29 : decode cX6_readNumber 29 = .ok (.getfield 94, 3) := by decide +kernel
theorem dX6_readNumber_32 : decode cX6_readNumber 32 = .ok (.goto 4, 3) := by decide +kernel
theorem dX6_readNumber_35 : decode cX6_readNumber 35 = .ok (.iconst (-1), 1) := by decide +kernel
theorem dX6_readNumber_36 : decode cX6_readNumber 36 = .ok (.ireturn, 1) := by decide +kernel
def f_X6_readNumber (N : Nat) (x1 : Int32) (x2 : Int32) (M : Mem) : Option (Int32 × Mem) := bd (f_X6_readToken N  M) (fun M2 => jn (fun (a35 : Unit) => some ((-1 : Int32), M2)) (fun (k35 : Unit → Option (Int32 × Mem)) => if (M2.1 31 2) = (2 : Int32) then (if (M2.1 31 5) < x1 then (k35 ()) else (if x2 < (M2.1 31 5) then (k35 ()) else (some ((M2.1 31 5), M2)))) else (k35 ())))
set_option maxRecDepth 100000 in
set_option maxHeartbeats 4000000 in
theorem c_X6_readNumber {l : Launch} {D : va_G} {ac : Nat → ClassId} {A : Nat → Prop} {ad : Nat → Nat} {rest : va_W} (N : Nat) (x1 : Int32) (x2 : Int32)  (M : Mem) (r0 : Int32) (M0 : Mem) (hf : f_X6_readNumber N x1 x2 M = some (r0, M0)) : CtI l D ac A tabX ad rest yX6_readNumber cX6_readNumber 3 .int 3 [.ref (ad 31), .int x1, .int x2] M r0 M0 := by
  refine ct_ofI (own := RX6) (by decide +kernel) rfl (Nat.le_of_ble_eq_true rfl) ?_
  intro p e s m args below meth c C
  unfold f_X6_readNumber at hf
  refine a_L (L' := [(0, .ref (ad 31)), (1, .int x1), (2, .int x2)]) rfl ?_
  refine a_aload_n (pc := 0) C dX6_readNumber_0 0 rfl ?_
  refine a_callV_V (pc := 1) (d' := 2) C dX6_readNumber_1 ml_X6_22 mc_X6_readToken mv_X6_readToken tx_31 rfl [] rfl (Nat.le_of_ble_eq_true rfl) (Nat.le_of_ble_eq_true rfl) rfl (Nat.le_of_ble_eq_true rfl) (fun M' h => c_X6_readToken N   _  M' h) hf (fun M2 hf => ?_)
  refine a_aload_n (pc := 4) C dX6_readNumber_4 0 rfl ?_
  refine a_getI (pc := 5) C dX6_readNumber_5 fl_X6_32 tx_31 rfl ?_
  refine a_iconst (pc := 8) (v := 2) C dX6_readNumber_8 (by decide) ?_
  refine a_jn 35 (fun a35 : Unit => []) (fun a35 : Unit => []) (fun a35 : Unit => M2) hf (fun a35 hf => ?_) (fun k35 hk35 hf => ?_)
  · refine a_iconst (pc := 35) (v := (-1)) C dX6_readNumber_35 (by decide) ?_
    exact a_iret (pc := 36) C dX6_readNumber_36 (so_1 hf) (so_2 hf)
  · refine a_icmp_ne (pc := 9) 35 C dX6_readNumber_9 (by decide) hf (fun hf => ?_) (fun hf => ?_)
    · exact a_sub [] rfl (hk35 () hf)
    · refine a_aload_n (pc := 12) C dX6_readNumber_12 0 rfl ?_
      refine a_getI (pc := 13) C dX6_readNumber_13 fl_X6_94 tx_31 rfl ?_
      refine a_iload_n (pc := 16) C dX6_readNumber_16 1 rfl ?_
      refine a_icmp_lt (pc := 17) 35 C dX6_readNumber_17 (by decide) hf (fun hf => ?_) (fun hf => ?_)
      · exact a_sub [] rfl (hk35 () hf)
      · refine a_aload_n (pc := 20) C dX6_readNumber_20 0 rfl ?_
        refine a_getI (pc := 21) C dX6_readNumber_21 fl_X6_94 tx_31 rfl ?_
        refine a_iload_n (pc := 24) C dX6_readNumber_24 2 rfl ?_
        refine a_icmp_gt (pc := 25) 35 C dX6_readNumber_25 (by decide) hf (fun hf => ?_) (fun hf => ?_)
        · exact a_sub [] rfl (hk35 () hf)
        · refine a_aload_n (pc := 28) C dX6_readNumber_28 0 rfl ?_
          refine a_getI (pc := 29) C dX6_readNumber_29 fl_X6_94 tx_31 rfl ?_
          refine a_goto (pc := 32) 36 C dX6_readNumber_32 (by decide) ?_
          exact a_iret (pc := 36) C dX6_readNumber_36 (so_1 hf) (so_2 hf)
theorem dX7_line_0 : decode cX7_line 0 = .ok (.iload_n 1, 1) := by decide +kernel
theorem dX7_line_1 : decode cX7_line 1 = .ok (.invokestatic 76, 3) := by decide +kernel
theorem dX7_line_4 : decode cX7_line 4 = .ok (.ifCond .eq 39, 3) := by decide +kernel
theorem dX7_line_7 : decode cX7_line 7 = .ok (.iload_n 2, 1) := by decide +kernel
theorem dX7_line_8 : decode cX7_line 8 = .ok (.invokestatic 80, 3) := by decide +kernel
theorem dX7_line_11 : decode cX7_line 11 = .ok (.ifCond .eq 32, 3) := by decide +kernel
theorem dX7_line_14 : decode cX7_line 14 = .ok (.aload_n 0, 1) := by decide +kernel
theorem dX7_line_15 : decode cX7_line 15 = .ok (.getfield 12, 3) := by decide +kernel
theorem dX7_line_18 : decode cX7_line 18 = .ok (.iload_n 3, 1) := by decide +kernel
theorem dX7_line_19 : decode cX7_line 19 = .ok (.invokevirtual 83, 3) := by decide +kernel
theorem dX7_line_22 : decode cX7_line 22 = .ok (.ifCond .eq 21, 3) := by decide +kernel
theorem dX7_line_25 : decode cX7_line 25 = .ok (.aload_n 0, 1) := by decide +kernel
theorem dX7_line_26 : decode cX7_line 26 = .ok (.getfield 12, 3) := by decide +kernel
theorem dX7_line_29 : decode cX7_line 29 = .ok (.iload 4, 2) := by decide +kernel
theorem dX7_line_31 : decode cX7_line 31 = .ok (.invokevirtual 83, 3) := by decide +kernel
theorem dX7_line_34 : decode cX7_line 34 = .ok (.ifCond .eq 9, 3) := by decide +kernel
theorem dX7_line_37 : decode cX7_line 37 = .ok (.iload_n 3, 1) := by decide +kernel
theorem dX7_line_38 : decode cX7_line 38 = .ok (.iload 4, 2) := by decide +kernel
theorem dX7_line_40 : decode cX7_line 40 = .ok (.if_icmp .ne 6, 3) := by decide +kernel
theorem dX7_line_43 : decode cX7_line 43 = .ok (.bipush (-2), 2) := by decide +kernel
theorem dX7_line_45 : decode cX7_line 45 = .ok (.ireturn, 1) := by decide +kernel
theorem dX7_line_46 : decode cX7_line 46 = .ok (.aload_n 0, 1) := by decide +kernel
theorem dX7_line_47 : decode cX7_line 47 = .ok (.getfield 12, 3) := by decide +kernel
theorem dX7_line_50 : decode cX7_line 50 = .ok (.iload_n 3, 1) := by decide +kernel
theorem dX7_line_51 : decode cX7_line 51 = .ok (.iload 4, 2) := by decide +kernel
theorem dX7_line_53 : decode cX7_line 53 = .ok (.invokevirtual 86, 3) := by decide +kernel
theorem dX7_line_56 : decode cX7_line 56 = .ok (.ifCond .eq 6, 3) := by decide +kernel
theorem dX7_line_59 : decode cX7_line 59 = .ok (.bipush (-3), 2) := by decide +kernel
theorem dX7_line_61 : decode cX7_line 61 = .ok (.ireturn, 1) := by decide +kernel
theorem dX7_line_62 : decode cX7_line 62 = .ok (.aload_n 0, 1) := by decide +kernel
theorem dX7_line_63 : decode cX7_line 63 = .ok (.getfield 12, 3) := by decide +kernel
theorem dX7_line_66 : decode cX7_line 66 = .ok (.getfield 90, 3) := by decide +kernel
theorem dX7_line_69 : decode cX7_line 69 = .ok (.bipush 10, 2) := by decide +kernel
theorem dX7_line_71 : decode cX7_line 71 = .ok (.if_icmp .lt 6, 3) := by decide +kernel
theorem dX7_line_74 : decode cX7_line 74 = .ok (.bipush (-4), 2) := by decide +kernel
theorem dX7_line_76 : decode cX7_line 76 = .ok (.ireturn, 1) := by decide +kernel
theorem dX7_line_77 : decode cX7_line 77 = .ok (.aload_n 0, 1) := by decide +kernel
theorem dX7_line_78 : decode cX7_line 78 = .ok (.getfield 25, 3) := by decide +kernel
theorem dX7_line_81 : decode cX7_line 81 = .ok (.invokevirtual 93, 3) := by decide +kernel
theorem dX7_line_84 : decode cX7_line 84 = .ok (.aload_n 0, 1) := by decide +kernel
theorem dX7_line_85 : decode cX7_line 85 = .ok (.getfield 12, 3) := by decide +kernel
theorem dX7_line_88 : decode cX7_line 88 = .ok (.iload_n 1, 1) := by decide +kernel
theorem dX7_line_89 : decode cX7_line 89 = .ok (.iload_n 2, 1) := by decide +kernel
theorem dX7_line_90 : decode cX7_line 90 = .ok (.iload_n 3, 1) := by decide +kernel
theorem dX7_line_91 : decode cX7_line 91 = .ok (.iload 4, 2) := by decide +kernel
theorem dX7_line_93 : decode cX7_line 93 = .ok (.invokevirtual 96, 3) := by decide +kernel
theorem dX7_line_96 : decode cX7_line 96 = .ok (.aload_n 0, 1) := by decide +kernel
theorem dX7_line_97 : decode cX7_line 97 = .ok (.getfield 12, 3) := by decide +kernel
theorem dX7_line_100 : decode cX7_line 100 = .ok (.getfield 90, 3) := by decide +kernel
theorem dX7_line_103 : decode cX7_line 103 = .ok (.iconst 1, 1) := by decide +kernel
theorem dX7_line_104 : decode cX7_line 104 = .ok (.isub, 1) := by decide +kernel
theorem dX7_line_105 : decode cX7_line 105 = .ok (.ireturn, 1) := by decide +kernel
def f_X7_line (N : Nat) (x1 : Int32) (x2 : Int32) (x3 : Int32) (x4 : Int32) (M : Mem) : Option (Int32 × Mem) := bd (f_X7_isKind N x1 M) (fun v1 => if v1 = 0 then (some ((-2 : Int32), M)) else (bd (f_X7_isFigure N x2 M) (fun v3 => if v3 = 0 then (some ((-2 : Int32), M)) else (bd (f_X1_hasPoint N 1 x3 M) (fun v5 => if v5 = 0 then (some ((-2 : Int32), M)) else (bd (f_X1_hasPoint N 1 x4 M) (fun v7 => if v7 = 0 then (some ((-2 : Int32), M)) else (if x3 = x4 then (some ((-2 : Int32), M)) else (bd (f_X1_areJoined N 1 x3 x4 M) (fun v9 => if v9 = 0 then (if (M.1 1 1) < (10 : Int32) then (bd (f_X4_forget N  M) (fun M12 => bd (f_X1_addLine N 1 x1 x2 x3 x4 M12) (fun M14 => some (((M14.1 1 1) - (1 : Int32)), M14)))) else (some ((-4 : Int32), M))) else (some ((-3 : Int32), M))))))))))))
set_option maxRecDepth 100000 in
set_option maxHeartbeats 4000000 in
theorem c_X7_line {l : Launch} {D : va_G} {ac : Nat → ClassId} {A : Nat → Prop} {ad : Nat → Nat} {rest : va_W} (N : Nat) (x1 : Int32) (x2 : Int32) (x3 : Int32) (x4 : Int32)  (M : Mem) (r0 : Int32) (M0 : Mem) (hf : f_X7_line N x1 x2 x3 x4 M = some (r0, M0)) : CtI l D ac A tabX ad rest yX7_line cX7_line 5 .int 3 [.ref (ad 0), .int x1, .int x2, .int x3, .int x4] M r0 M0 := by
  refine ct_ofI (own := RX7) (by decide +kernel) rfl (Nat.le_of_ble_eq_true rfl) ?_
  intro p e s m args below meth c C
  unfold f_X7_line at hf
  refine a_L (L' := [(0, .ref (ad 0)), (1, .int x1), (2, .int x2), (3, .int x3), (4, .int x4)]) rfl ?_
  refine a_iload_n (pc := 0) C dX7_line_0 1 rfl ?_
  refine a_callS_Ir (pc := 1) (d' := 2) C dX7_line_1 ml_X7_76 mc_X7_isKind ms_X7_isKind [.int x1] rfl (Nat.le_of_ble_eq_true rfl) (Nat.le_of_ble_eq_true rfl) rfl (Nat.le_of_ble_eq_true rfl) (fun r h => c_X7_isKind N x1  _  r h) hf (fun v1 hf => ?_)
  refine a_if_eq (pc := 4) 43 C dX7_line_4 (by decide) hf (fun hf => ?_) (fun hf => ?_)
  · refine a_bipush (pc := 43) (v := (-2)) C dX7_line_43 (by decide) ?_
    exact a_iret (pc := 45) C dX7_line_45 (so_1 hf) (so_2 hf)
  · refine a_iload_n (pc := 7) C dX7_line_7 2 rfl ?_
    refine a_callS_Ir (pc := 8) (d' := 2) C dX7_line_8 ml_X7_80 mc_X7_isFigure ms_X7_isFigure [.int x2] rfl (Nat.le_of_ble_eq_true rfl) (Nat.le_of_ble_eq_true rfl) rfl (Nat.le_of_ble_eq_true rfl) (fun r h => c_X7_isFigure N x2  _  r h) hf (fun v3 hf => ?_)
    refine a_if_eq (pc := 11) 43 C dX7_line_11 (by decide) hf (fun hf => ?_) (fun hf => ?_)
    · refine a_bipush (pc := 43) (v := (-2)) C dX7_line_43 (by decide) ?_
      exact a_iret (pc := 45) C dX7_line_45 (so_1 hf) (so_2 hf)
    · refine a_aload_n (pc := 14) C dX7_line_14 0 rfl ?_
      refine a_getR (pc := 15) C dX7_line_15 fl_X7_12 tx_0 rfl ?_
      refine a_iload_n (pc := 18) C dX7_line_18 3 rfl ?_
      refine a_callV_Ir (pc := 19) (d' := 1) C dX7_line_19 ml_X7_83 mc_X1_hasPoint mv_X1_hasPoint net_1.1 rfl [.int x3] rfl (Nat.le_of_ble_eq_true rfl) (Nat.le_of_ble_eq_true rfl) rfl (Nat.le_of_ble_eq_true rfl) (fun r h => c_X1_hasPoint N 1 x3 net_1 _  r h) hf (fun v5 hf => ?_)
      refine a_if_eq (pc := 22) 43 C dX7_line_22 (by decide) hf (fun hf => ?_) (fun hf => ?_)
      · refine a_bipush (pc := 43) (v := (-2)) C dX7_line_43 (by decide) ?_
        exact a_iret (pc := 45) C dX7_line_45 (so_1 hf) (so_2 hf)
      · refine a_aload_n (pc := 25) C dX7_line_25 0 rfl ?_
        refine a_getR (pc := 26) C dX7_line_26 fl_X7_12 tx_0 rfl ?_
        refine a_iload (pc := 29) C dX7_line_29 4 rfl ?_
        refine a_callV_Ir (pc := 31) (d' := 1) C dX7_line_31 ml_X7_83 mc_X1_hasPoint mv_X1_hasPoint net_1.1 rfl [.int x4] rfl (Nat.le_of_ble_eq_true rfl) (Nat.le_of_ble_eq_true rfl) rfl (Nat.le_of_ble_eq_true rfl) (fun r h => c_X1_hasPoint N 1 x4 net_1 _  r h) hf (fun v7 hf => ?_)
        refine a_if_eq (pc := 34) 43 C dX7_line_34 (by decide) hf (fun hf => ?_) (fun hf => ?_)
        · refine a_bipush (pc := 43) (v := (-2)) C dX7_line_43 (by decide) ?_
          exact a_iret (pc := 45) C dX7_line_45 (so_1 hf) (so_2 hf)
        · refine a_iload_n (pc := 37) C dX7_line_37 3 rfl ?_
          refine a_iload (pc := 38) C dX7_line_38 4 rfl ?_
          refine a_icmp_ne (pc := 40) 46 C dX7_line_40 (by decide) hf (fun hf => ?_) (fun hf => ?_)
          · refine a_aload_n (pc := 46) C dX7_line_46 0 rfl ?_
            refine a_getR (pc := 47) C dX7_line_47 fl_X7_12 tx_0 rfl ?_
            refine a_iload_n (pc := 50) C dX7_line_50 3 rfl ?_
            refine a_iload (pc := 51) C dX7_line_51 4 rfl ?_
            refine a_callV_Ir (pc := 53) (d' := 2) C dX7_line_53 ml_X7_86 mc_X1_areJoined mv_X1_areJoined net_1.1 rfl [.int x3, .int x4] rfl (Nat.le_of_ble_eq_true rfl) (Nat.le_of_ble_eq_true rfl) rfl (Nat.le_of_ble_eq_true rfl) (fun r h => c_X1_areJoined N 1 x3 x4 net_1 _  r h) hf (fun v9 hf => ?_)
            refine a_if_eq (pc := 56) 62 C dX7_line_56 (by decide) hf (fun hf => ?_) (fun hf => ?_)
            · refine a_aload_n (pc := 62) C dX7_line_62 0 rfl ?_
              refine a_getR (pc := 63) C dX7_line_63 fl_X7_12 tx_0 rfl ?_
              refine a_getI (pc := 66) C dX7_line_66 fl_X7_90 net_1.1 rfl ?_
              refine a_bipush (pc := 69) (v := 10) C dX7_line_69 (by decide) ?_
              refine a_icmp_lt (pc := 71) 77 C dX7_line_71 (by decide) hf (fun hf => ?_) (fun hf => ?_)
              · refine a_aload_n (pc := 77) C dX7_line_77 0 rfl ?_
                refine a_getR (pc := 78) C dX7_line_78 fl_X7_25 tx_0 rfl ?_
                refine a_callV_V (pc := 81) (d' := 1) C dX7_line_81 ml_X7_93 mc_X4_forget mv_X4_forget tx_19 rfl [] rfl (Nat.le_of_ble_eq_true rfl) (Nat.le_of_ble_eq_true rfl) rfl (Nat.le_of_ble_eq_true rfl) (fun M' h => c_X4_forget N   _  M' h) hf (fun M12 hf => ?_)
                refine a_aload_n (pc := 84) C dX7_line_84 0 rfl ?_
                refine a_getR (pc := 85) C dX7_line_85 fl_X7_12 tx_0 rfl ?_
                refine a_iload_n (pc := 88) C dX7_line_88 1 rfl ?_
                refine a_iload_n (pc := 89) C dX7_line_89 2 rfl ?_
                refine a_iload_n (pc := 90) C dX7_line_90 3 rfl ?_
                refine a_iload (pc := 91) C dX7_line_91 4 rfl ?_
                refine a_callV_V (pc := 93) (d' := 2) C dX7_line_93 ml_X7_96 mc_X1_addLine mv_X1_addLine net_1.1 rfl [.int x1, .int x2, .int x3, .int x4] rfl (Nat.le_of_ble_eq_true rfl) (Nat.le_of_ble_eq_true rfl) rfl (Nat.le_of_ble_eq_true rfl) (fun M' h => c_X1_addLine N 1 x1 x2 x3 x4 net_1 _  M' h) hf (fun M14 hf => ?_)
                refine a_aload_n (pc := 96) C dX7_line_96 0 rfl ?_
                refine a_getR (pc := 97) C dX7_line_97 fl_X7_12 tx_0 rfl ?_
                refine a_getI (pc := 100) C dX7_line_100 fl_X7_90 net_1.1 rfl ?_
                refine a_iconst (pc := 103) (v := 1) C dX7_line_103 (by decide) ?_
                refine a_isub (pc := 104) C dX7_line_104 ?_
                exact a_iret (pc := 105) C dX7_line_105 (so_1 hf) (so_2 hf)
              · refine a_bipush (pc := 74) (v := (-4)) C dX7_line_74 (by decide) ?_
                exact a_iret (pc := 76) C dX7_line_76 (so_1 hf) (so_2 hf)
            · refine a_bipush (pc := 59) (v := (-3)) C dX7_line_59 (by decide) ?_
              exact a_iret (pc := 61) C dX7_line_61 (so_1 hf) (so_2 hf)
          · refine a_bipush (pc := 43) (v := (-2)) C dX7_line_43 (by decide) ?_
            exact a_iret (pc := 45) C dX7_line_45 (so_1 hf) (so_2 hf)
theorem dX7_lineOf_0 : decode cX7_lineOf 0 = .ok (.aload_n 0, 1) := by decide +kernel
theorem dX7_lineOf_1 : decode cX7_lineOf 1 = .ok (.getfield 12, 3) := by decide +kernel
theorem dX7_lineOf_4 : decode cX7_lineOf 4 = .ok (.iload_n 1, 1) := by decide +kernel
theorem dX7_lineOf_5 : decode cX7_lineOf 5 = .ok (.invokevirtual 100, 3) := by decide +kernel
theorem dX7_lineOf_8 : decode cX7_lineOf 8 = .ok (.ifCond .ne 6, 3) := by decide +kernel
theorem dX7_lineOf_11 : decode cX7_lineOf 11 = .ok (.bipush (-2), 2) := by decide +kernel
theorem dX7_lineOf_13 : decode cX7_lineOf 13 = .ok (.ireturn, 1) := by decide +kernel
theorem dX7_lineOf_14 : decode cX7_lineOf 14 = .ok (.iload_n 2, 1) := by decide +kernel
theorem dX7_lineOf_15 : decode cX7_lineOf 15 = .ok (.tableswitch 82 0 4 #[33, 43, 53, 62, 72], 33) := by decide +kernel
theorem dX7_lineOf_48 : decode cX7_lineOf 48 = .ok (.aload_n 0, 1) := by decide +kernel
theorem dX7_lineOf_49 : decode cX7_lineOf 49 = .ok (.getfield 12, 3) := by decide +kernel
theorem dX7_lineOf_52 : decode cX7_lineOf 52 = .ok (.getfield 103, 3) := by decide +kernel
theorem dX7_lineOf_55 : decode cX7_lineOf 55 = .ok (.iload_n 1, 1) := by decide +kernel
theorem dX7_lineOf_56 : decode cX7_lineOf 56 = .ok (.iaload, 1) := by decide +kernel
theorem dX7_lineOf_57 : decode cX7_lineOf 57 = .ok (.ireturn, 1) := by decide +kernel
theorem dX7_lineOf_58 : decode cX7_lineOf 58 = .ok (.aload_n 0, 1) := by decide +kernel
theorem dX7_lineOf_59 : decode cX7_lineOf 59 = .ok (.getfield 12, 3) := by decide +kernel
theorem dX7_lineOf_62 : decode cX7_lineOf 62 = .ok (.getfield 107, 3) := by decide +kernel
theorem dX7_lineOf_65 : decode cX7_lineOf 65 = .ok (.iload_n 1, 1) := by decide +kernel
theorem dX7_lineOf_66 : decode cX7_lineOf 66 = .ok (.iaload, 1) := by decide +kernel
theorem dX7_lineOf_67 : decode cX7_lineOf 67 = .ok (.ireturn, 1) := by decide +kernel
theorem dX7_lineOf_68 : decode cX7_lineOf 68 = .ok (.aload_n 0, 1) := by decide +kernel
theorem dX7_lineOf_69 : decode cX7_lineOf 69 = .ok (.getfield 12, 3) := by decide +kernel
theorem dX7_lineOf_72 : decode cX7_lineOf 72 = .ok (.iload_n 1, 1) := by decide +kernel
theorem dX7_lineOf_73 : decode cX7_lineOf 73 = .ok (.invokevirtual 110, 3) := by decide +kernel
theorem dX7_lineOf_76 : decode cX7_lineOf 76 = .ok (.ireturn, 1) := by decide +kernel
theorem dX7_lineOf_77 : decode cX7_lineOf 77 = .ok (.aload_n 0, 1) := by decide +kernel
theorem dX7_lineOf_78 : decode cX7_lineOf 78 = .ok (.getfield 12, 3) := by decide +kernel
theorem dX7_lineOf_81 : decode cX7_lineOf 81 = .ok (.getfield 114, 3) := by decide +kernel
theorem dX7_lineOf_84 : decode cX7_lineOf 84 = .ok (.iload_n 1, 1) := by decide +kernel
theorem dX7_lineOf_85 : decode cX7_lineOf 85 = .ok (.iaload, 1) := by decide +kernel
theorem dX7_lineOf_86 : decode cX7_lineOf 86 = .ok (.ireturn, 1) := by decide +kernel
theorem dX7_lineOf_87 : decode cX7_lineOf 87 = .ok (.aload_n 0, 1) := by decide +kernel
theorem dX7_lineOf_88 : decode cX7_lineOf 88 = .ok (.getfield 12, 3) := by decide +kernel
theorem dX7_lineOf_91 : decode cX7_lineOf 91 = .ok (.getfield 117, 3) := by decide +kernel
theorem dX7_lineOf_94 : decode cX7_lineOf 94 = .ok (.iload_n 1, 1) := by decide +kernel
theorem dX7_lineOf_95 : decode cX7_lineOf 95 = .ok (.iaload, 1) := by decide +kernel
theorem dX7_lineOf_96 : decode cX7_lineOf 96 = .ok (.ireturn, 1) := by decide +kernel
theorem dX7_lineOf_97 : decode cX7_lineOf 97 = .ok (.bipush (-2), 2) := by decide +kernel
theorem dX7_lineOf_99 : decode cX7_lineOf 99 = .ok (.ireturn, 1) := by decide +kernel
def f_X7_lineOf (N : Nat) (x1 : Int32) (x2 : Int32) (M : Mem) : Option (Int32) := bd (f_X1_hasLine N 1 x1 M) (fun v1 => if v1 = 0 then (some (-2 : Int32)) else (if x2 = 0 then (ck (inb x1 10) (some (M.1 2 x1.toNatClampNeg))) else if x2 = 1 then (ck (inb x1 10) (some (M.1 3 x1.toNatClampNeg))) else if x2 = 2 then (bd (f_X1_gapOf N 1 x1 M) (fun v6 => some v6)) else if x2 = 3 then (ck (inb x1 10) (some (M.1 4 x1.toNatClampNeg))) else if x2 = 4 then (ck (inb x1 10) (some (M.1 5 x1.toNatClampNeg))) else (some (-2 : Int32))))
set_option maxRecDepth 100000 in
set_option maxHeartbeats 4000000 in
theorem c_X7_lineOf {l : Launch} {D : va_G} {ac : Nat → ClassId} {A : Nat → Prop} {ad : Nat → Nat} {rest : va_W} (N : Nat) (x1 : Int32) (x2 : Int32)  (M : Mem) (r0 : Int32) (hf : f_X7_lineOf N x1 x2 M = some r0) : CtI l D ac A tabX ad rest yX7_lineOf cX7_lineOf 3 .int 3 [.ref (ad 0), .int x1, .int x2] M r0 M := by
  refine ct_ofI (own := RX7) (by decide +kernel) rfl (Nat.le_of_ble_eq_true rfl) ?_
  intro p e s m args below meth c C
  unfold f_X7_lineOf at hf
  refine a_L (L' := [(0, .ref (ad 0)), (1, .int x1), (2, .int x2)]) rfl ?_
  refine a_aload_n (pc := 0) C dX7_lineOf_0 0 rfl ?_
  refine a_getR (pc := 1) C dX7_lineOf_1 fl_X7_12 tx_0 rfl ?_
  refine a_iload_n (pc := 4) C dX7_lineOf_4 1 rfl ?_
  refine a_callV_Ir (pc := 5) (d' := 1) C dX7_lineOf_5 ml_X7_100 mc_X1_hasLine mv_X1_hasLine net_1.1 rfl [.int x1] rfl (Nat.le_of_ble_eq_true rfl) (Nat.le_of_ble_eq_true rfl) rfl (Nat.le_of_ble_eq_true rfl) (fun r h => c_X1_hasLine N 1 x1 net_1 _  r h) hf (fun v1 hf => ?_)
  refine a_if_ne (pc := 8) 14 C dX7_lineOf_8 (by decide) hf (fun hf => ?_) (fun hf => ?_)
  · refine a_iload_n (pc := 14) C dX7_lineOf_14 2 rfl ?_
    by_cases hs3 : x2 = 0
    · rw [if_pos hs3] at hf
      refine a_tabIn (pc := 15) (off := 33) 48 C dX7_lineOf_15 (by rw [hs3]; decide) (by rw [hs3]; decide) (by rw [hs3]; rfl) (by decide) ?_
      refine a_aload_n (pc := 48) C dX7_lineOf_48 0 rfl ?_
      refine a_getR (pc := 49) C dX7_lineOf_49 fl_X7_12 tx_0 rfl ?_
      refine a_getR (pc := 52) C dX7_lineOf_52 fl_X7_103 net_1.1 rfl ?_
      refine a_iload_n (pc := 55) C dX7_lineOf_55 1 rfl ?_
      refine a_iald (pc := 56) C dX7_lineOf_56 net_1.2.1 hf (fun hf => ?_)
      exact a_iret (pc := 57) C dX7_lineOf_57 (Option.some.inj hf) rfl
    · rw [if_neg hs3] at hf
      by_cases hs4 : x2 = 1
      · rw [if_pos hs4] at hf
        refine a_tabIn (pc := 15) (off := 43) 58 C dX7_lineOf_15 (by rw [hs4]; decide) (by rw [hs4]; decide) (by rw [hs4]; rfl) (by decide) ?_
        refine a_aload_n (pc := 58) C dX7_lineOf_58 0 rfl ?_
        refine a_getR (pc := 59) C dX7_lineOf_59 fl_X7_12 tx_0 rfl ?_
        refine a_getR (pc := 62) C dX7_lineOf_62 fl_X7_107 net_1.1 rfl ?_
        refine a_iload_n (pc := 65) C dX7_lineOf_65 1 rfl ?_
        refine a_iald (pc := 66) C dX7_lineOf_66 net_1.2.2.1 hf (fun hf => ?_)
        exact a_iret (pc := 67) C dX7_lineOf_67 (Option.some.inj hf) rfl
      · rw [if_neg hs4] at hf
        by_cases hs5 : x2 = 2
        · rw [if_pos hs5] at hf
          refine a_tabIn (pc := 15) (off := 53) 68 C dX7_lineOf_15 (by rw [hs5]; decide) (by rw [hs5]; decide) (by rw [hs5]; rfl) (by decide) ?_
          refine a_aload_n (pc := 68) C dX7_lineOf_68 0 rfl ?_
          refine a_getR (pc := 69) C dX7_lineOf_69 fl_X7_12 tx_0 rfl ?_
          refine a_iload_n (pc := 72) C dX7_lineOf_72 1 rfl ?_
          refine a_callV_Ir (pc := 73) (d' := 2) C dX7_lineOf_73 ml_X7_110 mc_X1_gapOf mv_X1_gapOf net_1.1 rfl [.int x1] rfl (Nat.le_of_ble_eq_true rfl) (Nat.le_of_ble_eq_true rfl) rfl (Nat.le_of_ble_eq_true rfl) (fun r h => c_X1_gapOf N 1 x1 net_1 _  r h) hf (fun v6 hf => ?_)
          exact a_iret (pc := 76) C dX7_lineOf_76 (Option.some.inj hf) rfl
        · rw [if_neg hs5] at hf
          by_cases hs8 : x2 = 3
          · rw [if_pos hs8] at hf
            refine a_tabIn (pc := 15) (off := 62) 77 C dX7_lineOf_15 (by rw [hs8]; decide) (by rw [hs8]; decide) (by rw [hs8]; rfl) (by decide) ?_
            refine a_aload_n (pc := 77) C dX7_lineOf_77 0 rfl ?_
            refine a_getR (pc := 78) C dX7_lineOf_78 fl_X7_12 tx_0 rfl ?_
            refine a_getR (pc := 81) C dX7_lineOf_81 fl_X7_114 net_1.1 rfl ?_
            refine a_iload_n (pc := 84) C dX7_lineOf_84 1 rfl ?_
            refine a_iald (pc := 85) C dX7_lineOf_85 net_1.2.2.2.1 hf (fun hf => ?_)
            exact a_iret (pc := 86) C dX7_lineOf_86 (Option.some.inj hf) rfl
          · rw [if_neg hs8] at hf
            by_cases hs9 : x2 = 4
            · rw [if_pos hs9] at hf
              refine a_tabIn (pc := 15) (off := 72) 87 C dX7_lineOf_15 (by rw [hs9]; decide) (by rw [hs9]; decide) (by rw [hs9]; rfl) (by decide) ?_
              refine a_aload_n (pc := 87) C dX7_lineOf_87 0 rfl ?_
              refine a_getR (pc := 88) C dX7_lineOf_88 fl_X7_12 tx_0 rfl ?_
              refine a_getR (pc := 91) C dX7_lineOf_91 fl_X7_117 net_1.1 rfl ?_
              refine a_iload_n (pc := 94) C dX7_lineOf_94 1 rfl ?_
              refine a_iald (pc := 95) C dX7_lineOf_95 net_1.2.2.2.2.1 hf (fun hf => ?_)
              exact a_iret (pc := 96) C dX7_lineOf_96 (Option.some.inj hf) rfl
            · rw [if_neg hs9] at hf
              refine a_tabOut (pc := 15) 97 C dX7_lineOf_15 (by have nhs3 := ne_toInt hs3 (k := 0) (by decide); have nhs4 := ne_toInt hs4 (k := 1) (by decide); have nhs5 := ne_toInt hs5 (k := 2) (by decide); have nhs8 := ne_toInt hs8 (k := 3) (by decide); have nhs9 := ne_toInt hs9 (k := 4) (by decide); omega) (by decide) ?_
              refine a_bipush (pc := 97) (v := (-2)) C dX7_lineOf_97 (by decide) ?_
              exact a_iret (pc := 99) C dX7_lineOf_99 (Option.some.inj hf) rfl
  · refine a_bipush (pc := 11) (v := (-2)) C dX7_lineOf_11 (by decide) ?_
    exact a_iret (pc := 13) C dX7_lineOf_13 (Option.some.inj hf) rfl
