theorem dX8_binds_0 : decode cX8_binds 0 = .ok (.aload_n 0, 1) := by decide +kernel
theorem dX8_binds_1 : decode cX8_binds 1 = .ok (.invokevirtual 227, 3) := by decide +kernel
theorem dX8_binds_4 : decode cX8_binds 4 = .ok (.iconst 1, 1) := by decide +kernel
theorem dX8_binds_5 : decode cX8_binds 5 = .ok (.aload_n 0, 1) := by decide +kernel
theorem dX8_binds_6 : decode cX8_binds 6 = .ok (.getfield 102, 3) := by decide +kernel
theorem dX8_binds_9 : decode cX8_binds 9 = .ok (.ishl, 1) := by decide +kernel
theorem dX8_binds_10 : decode cX8_binds 10 = .ok (.iconst 1, 1) := by decide +kernel
theorem dX8_binds_11 : decode cX8_binds 11 = .ok (.isub, 1) := by decide +kernel
theorem dX8_binds_12 : decode cX8_binds 12 = .ok (.istore_n 1, 1) := by decide +kernel
theorem dX8_binds_13 : decode cX8_binds 13 = .ok (.aload_n 0, 1) := by decide +kernel
theorem dX8_binds_14 : decode cX8_binds 14 = .ok (.iload_n 1, 1) := by decide +kernel
theorem dX8_binds_15 : decode cX8_binds 15 = .ok (.invokevirtual 230, 3) := by decide +kernel
theorem dX8_binds_18 : decode cX8_binds 18 = .ok (.aload_n 0, 1) := by decide +kernel
theorem dX8_binds_19 : decode cX8_binds 19 = .ok (.getfield 215, 3) := by decide +kernel
theorem dX8_binds_22 : decode cX8_binds 22 = .ok (.istore_n 2, 1) := by decide +kernel
theorem dX8_binds_23 : decode cX8_binds 23 = .ok (.aload_n 0, 1) := by decide +kernel
theorem dX8_binds_24 : decode cX8_binds 24 = .ok (.getfield 218, 3) := by decide +kernel
theorem dX8_binds_27 : decode cX8_binds 27 = .ok (.istore_n 3, 1) := by decide +kernel
theorem dX8_binds_28 : decode cX8_binds 28 = .ok (.iconst 0, 1) := by decide +kernel
theorem dX8_binds_29 : decode cX8_binds 29 = .ok (.istore 4, 2) := by decide +kernel
theorem dX8_binds_31 : decode cX8_binds 31 = .ok (.iconst 0, 1) := by decide +kernel
theorem dX8_binds_32 : decode cX8_binds 32 = .ok (.istore 5, 2) := by decide +kernel
theorem dX8_binds_34 : decode cX8_binds 34 = .ok (.iload 5, 2) := by decide +kernel
theorem dX8_binds_36 : decode cX8_binds 36 = .ok (.aload_n 0, 1) := by decide +kernel
theorem dX8_binds_37 : decode cX8_binds 37 = .ok (.getfield 102, 3) := by decide +kernel
theorem dX8_binds_40 : decode cX8_binds 40 = .ok (.if_icmp .ge 49, 3) := by decide +kernel
theorem dX8_binds_43 : decode cX8_binds 43 = .ok (.aload_n 0, 1) := by decide +kernel
theorem dX8_binds_44 : decode cX8_binds 44 = .ok (.iload_n 1, 1) := by decide +kernel
theorem dX8_binds_45 : decode cX8_binds 45 = .ok (.iconst 1, 1) := by decide +kernel
theorem dX8_binds_46 : decode cX8_binds 46 = .ok (.iload 5, 2) := by decide +kernel
theorem dX8_binds_48 : decode cX8_binds 48 = .ok (.ishl, 1) := by decide +kernel
theorem dX8_binds_49 : decode cX8_binds 49 = .ok (.iconst (-1), 1) := by decide +kernel
theorem dX8_binds_50 : decode cX8_binds 50 = .ok (.ixor, 1) := by decide +kernel
theorem dX8_binds_51 : decode cX8_binds 51 = .ok (.iand, 1) := by decide +kernel
theorem dX8_binds_52 : decode cX8_binds 52 = .ok (.invokevirtual 230, 3) := by decide +kernel
theorem dX8_binds_55 : decode cX8_binds 55 = .ok (.iload 4, 2) := by decide +kernel
theorem dX8_binds_57 : decode cX8_binds 57 = .ok (.aload_n 0, 1) := by decide +kernel
theorem dX8_binds_58 : decode cX8_binds 58 = .ok (.getfield 215, 3) := by decide +kernel
theorem dX8_binds_61 : decode cX8_binds 61 = .ok (.iload_n 3, 1) := by decide +kernel
theorem dX8_binds_62 : decode cX8_binds 62 = .ok (.imul, 1) := by decide +kernel
theorem dX8_binds_63 : decode cX8_binds 63 = .ok (.iload_n 2, 1) := by decide +kernel
theorem dX8_binds_64 : decode cX8_binds 64 = .ok (.aload_n 0, 1) := by decide +kernel
theorem dX8_binds_65 : decode cX8_binds 65 = .ok (.getfield 218, 3) := by decide +kernel
theorem dX8_binds_68 : decode cX8_binds 68 = .ok (.imul, 1) := by decide +kernel
theorem dX8_binds_69 : decode cX8_binds 69 = .ok (.if_icmp .ge 10, 3) := by decide +kernel
theorem dX8_binds_72 : decode cX8_binds 72 = .ok (.iconst 1, 1) := by decide +kernel
theorem dX8_binds_73 : decode cX8_binds 73 = .ok (.iload 5, 2) := by decide +kernel
theorem dX8_binds_75 : decode cX8_binds 75 = .ok (.ishl, 1) := by decide +kernel
theorem dX8_binds_76 : decode cX8_binds 76 = .ok (.goto 4, 3) := by decide +kernel
theorem dX8_binds_79 : decode cX8_binds 79 = .ok (.iconst 0, 1) := by decide +kernel
theorem dX8_binds_80 : decode cX8_binds 80 = .ok (.ior, 1) := by decide +kernel
theorem dX8_binds_81 : decode cX8_binds 81 = .ok (.istore 4, 2) := by decide +kernel
theorem dX8_binds_83 : decode cX8_binds 83 = .ok (.iinc 5 1, 3) := by decide +kernel
theorem dX8_binds_86 : decode cX8_binds 86 = .ok (.goto (-52), 3) := by decide +kernel
theorem dX8_binds_89 : decode cX8_binds 89 = .ok (.iload 4, 2) := by decide +kernel
theorem dX8_binds_91 : decode cX8_binds 91 = .ok (.ireturn, 1) := by decide +kernel
def f_X8_binds (N : Nat)  (M : Mem) : Option (Int32 × Mem) := bd (f_X8_laysRings N  M) (fun M2 => nm (((1 : Int32) <<< ((M2.1 0 1) &&& 31)) - (1 : Int32)) (fun v3 => bd (f_X8_ratios N v3 M2) (fun M5 => nm (M5.1 0 20) (fun v6 => nm (M5.1 0 21) (fun v7 => lp (fun (k34 : (Int32 × Int32 × Mem) → Option (Int32 × Mem)) (a34 : Int32 × Int32 × Mem) => if (a34.2.2.1 0 1) ≤ a34.2.1 then (some (a34.1, a34.2.2)) else (bd (f_X8_ratios N (v3 &&& (((1 : Int32) <<< (a34.2.1 &&& 31)) ^^^ (-1 : Int32))) a34.2.2) (fun M9 => jn (fun (a80 : Int32) => nm (a34.1 ||| a80) (fun v10 => nm (a34.2.1 + (1 : Int32)) (fun v11 => k34 (v10, v11, M9)))) (fun (k80 : Int32 → Option (Int32 × Mem)) => if (v6 * (M9.1 0 21)) ≤ ((M9.1 0 20) * v7) then (k80 (0 : Int32)) else (k80 ((1 : Int32) <<< (a34.2.1 &&& 31))))))) N ((0 : Int32), (0 : Int32), M5))))))
set_option maxRecDepth 100000 in
set_option maxHeartbeats 4000000 in
theorem c_X8_binds {l : Launch} {D : va_G} {ac : Nat → ClassId} {A : Nat → Prop} {ad : Nat → Nat} {rest : va_W} (N : Nat)   (M : Mem) (r0 : Int32) (M0 : Mem) (hf : f_X8_binds N  M = some (r0, M0)) : CtI l D ac A tabM ad rest yX8_binds cX8_binds 6 .int 6 [.ref (ad 0)] M r0 M0 := by
  refine ct_ofI (own := RX8) (by decide +kernel) rfl (Nat.le_of_ble_eq_true rfl) ?_
  intro p e s m args below meth c C
  unfold f_X8_binds at hf
  refine a_L (L' := [(0, .ref (ad 0))]) rfl ?_
  refine a_aload_n (pc := 0) C dX8_binds_0 0 rfl ?_
  refine a_callV_V (pc := 1) (d' := 3) C dX8_binds_1 ml_X8_227 mc_X8_laysRings mv_X8_laysRings tm_0 rfl [] rfl (Nat.le_of_ble_eq_true rfl) (Nat.le_of_ble_eq_true rfl) rfl (Nat.le_of_ble_eq_true rfl) (fun M' h => c_X8_laysRings N   _  M' h) hf (fun M2 hf => ?_)
  refine a_iconst (pc := 4) (v := 1) C dX8_binds_4 (by decide) ?_
  refine a_aload_n (pc := 5) C dX8_binds_5 0 rfl ?_
  refine a_getI (pc := 6) C dX8_binds_6 fl_X8_102 tm_0 rfl ?_
  refine a_ishl (pc := 9) C dX8_binds_9 ?_
  refine a_iconst (pc := 10) (v := 1) C dX8_binds_10 (by decide) ?_
  refine a_isub (pc := 11) C dX8_binds_11 ?_
  refine a_nmi hf (fun v3 hf => ?_)
  refine a_istore_n (pc := 12) [(1, .int v3), (0, .ref (ad 0))] C dX8_binds_12 (by decide) rfl ?_
  refine a_aload_n (pc := 13) C dX8_binds_13 1 rfl ?_
  refine a_iload_n (pc := 14) C dX8_binds_14 0 rfl ?_
  refine a_callV_V (pc := 15) (d' := 5) C dX8_binds_15 ml_X8_230 mc_X8_ratios mv_X8_ratios tm_0 rfl [.int v3] rfl (Nat.le_of_ble_eq_true rfl) (Nat.le_of_ble_eq_true rfl) rfl (Nat.le_of_ble_eq_true rfl) (fun M' h => c_X8_ratios N v3  _  M' h) hf (fun M5 hf => ?_)
  refine a_aload_n (pc := 18) C dX8_binds_18 1 rfl ?_
  refine a_getI (pc := 19) C dX8_binds_19 fl_X8_215 tm_0 rfl ?_
  refine a_nmi hf (fun v6 hf => ?_)
  refine a_istore_n (pc := 22) [(2, .int v6), (1, .int v3), (0, .ref (ad 0))] C dX8_binds_22 (by decide) rfl ?_
  refine a_aload_n (pc := 23) C dX8_binds_23 2 rfl ?_
  refine a_getI (pc := 24) C dX8_binds_24 fl_X8_218 tm_0 rfl ?_
  refine a_nmi hf (fun v7 hf => ?_)
  refine a_istore_n (pc := 27) [(3, .int v7), (2, .int v6), (1, .int v3), (0, .ref (ad 0))] C dX8_binds_27 (by decide) rfl ?_
  refine a_iconst (pc := 28) (v := 0) C dX8_binds_28 (by decide) ?_
  refine a_istore (pc := 29) [(4, .int (0 : Int32)), (3, .int v7), (2, .int v6), (1, .int v3), (0, .ref (ad 0))] C dX8_binds_29 (by decide) rfl ?_
  refine a_iconst (pc := 31) (v := 0) C dX8_binds_31 (by decide) ?_
  refine a_istore (pc := 32) [(5, .int (0 : Int32)), (4, .int (0 : Int32)), (3, .int v7), (2, .int v6), (1, .int v3), (0, .ref (ad 0))] C dX8_binds_32 (by decide) rfl ?_
  refine a_sub [5, 4, 3, 2, 1, 0] rfl ?_
  refine a_lp 34 (fun a34 : Int32 × Int32 × Mem => [(0, .ref (ad 0)), (1, .int v3), (2, .int v6), (3, .int v7), (4, .int a34.1), (5, .int a34.2.1)]) (fun a34 : Int32 × Int32 × Mem => []) (fun a34 : Int32 × Int32 × Mem => a34.2.2) (fun k34 a34 hk34 hf => ?_) N ((0 : Int32), (0 : Int32), M5) hf
  refine a_iload (pc := 34) C dX8_binds_34 5 rfl ?_
  refine a_aload_n (pc := 36) C dX8_binds_36 0 rfl ?_
  refine a_getI (pc := 37) C dX8_binds_37 fl_X8_102 tm_0 rfl ?_
  refine a_icmp_ge (pc := 40) 89 C dX8_binds_40 (by decide) hf (fun hf => ?_) (fun hf => ?_)
  · refine a_iload (pc := 89) C dX8_binds_89 4 rfl ?_
    exact a_iret (pc := 91) C dX8_binds_91 (so_1 hf) (so_2 hf)
  · refine a_aload_n (pc := 43) C dX8_binds_43 0 rfl ?_
    refine a_iload_n (pc := 44) C dX8_binds_44 1 rfl ?_
    refine a_iconst (pc := 45) (v := 1) C dX8_binds_45 (by decide) ?_
    refine a_iload (pc := 46) C dX8_binds_46 5 rfl ?_
    refine a_ishl (pc := 48) C dX8_binds_48 ?_
    refine a_iconst (pc := 49) (v := (-1)) C dX8_binds_49 (by decide) ?_
    refine a_ixor (pc := 50) C dX8_binds_50 ?_
    refine a_iand (pc := 51) C dX8_binds_51 ?_
    refine a_callV_V (pc := 52) (d' := 5) C dX8_binds_52 ml_X8_230 mc_X8_ratios mv_X8_ratios tm_0 rfl [.int (v3 &&& (((1 : Int32) <<< (a34.2.1 &&& 31)) ^^^ (-1 : Int32)))] rfl (Nat.le_of_ble_eq_true rfl) (Nat.le_of_ble_eq_true rfl) rfl (Nat.le_of_ble_eq_true rfl) (fun M' h => c_X8_ratios N (v3 &&& (((1 : Int32) <<< (a34.2.1 &&& 31)) ^^^ (-1 : Int32)))  _  M' h) hf (fun M9 hf => ?_)
    refine a_iload (pc := 55) C dX8_binds_55 4 rfl ?_
    refine a_aload_n (pc := 57) C dX8_binds_57 0 rfl ?_
    refine a_getI (pc := 58) C dX8_binds_58 fl_X8_215 tm_0 rfl ?_
    refine a_iload_n (pc := 61) C dX8_binds_61 3 rfl ?_
    refine a_imul (pc := 62) C dX8_binds_62 ?_
    refine a_iload_n (pc := 63) C dX8_binds_63 2 rfl ?_
    refine a_aload_n (pc := 64) C dX8_binds_64 0 rfl ?_
    refine a_getI (pc := 65) C dX8_binds_65 fl_X8_218 tm_0 rfl ?_
    refine a_imul (pc := 68) C dX8_binds_68 ?_
    refine a_jn 80 (fun a80 : Int32 => [(0, .ref (ad 0)), (1, .int v3), (2, .int v6), (3, .int v7), (5, .int a34.2.1)]) (fun a80 : Int32 => [.int a80, .int a34.1]) (fun a80 : Int32 => M9) hf (fun a80 hf => ?_) (fun k80 hk80 hf => ?_)
    · refine a_ior (pc := 80) C dX8_binds_80 ?_
      refine a_nmi hf (fun v10 hf => ?_)
      refine a_istore (pc := 81) [(4, .int v10), (0, .ref (ad 0)), (1, .int v3), (2, .int v6), (3, .int v7), (5, .int a34.2.1)] C dX8_binds_81 (by decide) rfl ?_
      refine a_iinc (pc := 83) (v := 1) (fun v11 => [(5, .int v11), (4, .int v10), (0, .ref (ad 0)), (1, .int v3), (2, .int v6), (3, .int v7)]) C dX8_binds_83 5 rfl (by decide) (by decide) (fun _ => rfl) hf (fun v11 hf => ?_)
      refine a_goto (pc := 86) 34 C dX8_binds_86 (by decide) ?_
      exact a_sub [2, 3, 4, 5, 1, 0] rfl (hk34 (v10, v11, M9) hf)
    · refine a_icmp_ge (pc := 69) 79 C dX8_binds_69 (by decide) hf (fun hf => ?_) (fun hf => ?_)
      · refine a_iconst (pc := 79) (v := 0) C dX8_binds_79 (by decide) ?_
        exact a_sub [0, 1, 2, 3, 5] rfl (hk80 (0 : Int32) hf)
      · refine a_iconst (pc := 72) (v := 1) C dX8_binds_72 (by decide) ?_
        refine a_iload (pc := 73) C dX8_binds_73 5 rfl ?_
        refine a_ishl (pc := 75) C dX8_binds_75 ?_
        refine a_goto (pc := 76) 80 C dX8_binds_76 (by decide) ?_
        exact a_sub [0, 1, 2, 3, 5] rfl (hk80 ((1 : Int32) <<< (a34.2.1 &&& 31)) hf)
theorem dX8_room_0 : decode cX8_room 0 = .ok (.aload_n 0, 1) := by decide +kernel
theorem dX8_room_1 : decode cX8_room 1 = .ok (.iload_n 1, 1) := by decide +kernel
theorem dX8_room_2 : decode cX8_room 2 = .ok (.invokevirtual 134, 3) := by decide +kernel
theorem dX8_room_5 : decode cX8_room 5 = .ok (.ifCond .ne 6, 3) := by decide +kernel
theorem dX8_room_8 : decode cX8_room 8 = .ok (.bipush (-2), 2) := by decide +kernel
theorem dX8_room_10 : decode cX8_room 10 = .ok (.ireturn, 1) := by decide +kernel
theorem dX8_room_11 : decode cX8_room 11 = .ok (.aload_n 0, 1) := by decide +kernel
theorem dX8_room_12 : decode cX8_room 12 = .ok (.invokevirtual 227, 3) := by decide +kernel
theorem dX8_room_15 : decode cX8_room 15 = .ok (.iconst 1, 1) := by decide +kernel
theorem dX8_room_16 : decode cX8_room 16 = .ok (.aload_n 0, 1) := by decide +kernel
theorem dX8_room_17 : decode cX8_room 17 = .ok (.getfield 102, 3) := by decide +kernel
theorem dX8_room_20 : decode cX8_room 20 = .ok (.ishl, 1) := by decide +kernel
theorem dX8_room_21 : decode cX8_room 21 = .ok (.iconst 1, 1) := by decide +kernel
theorem dX8_room_22 : decode cX8_room 22 = .ok (.isub, 1) := by decide +kernel
theorem dX8_room_23 : decode cX8_room 23 = .ok (.istore_n 2, 1) := by decide +kernel
theorem dX8_room_24 : decode cX8_room 24 = .ok (.aload_n 0, 1) := by decide +kernel
theorem dX8_room_25 : decode cX8_room 25 = .ok (.iload_n 2, 1) := by decide +kernel
theorem dX8_room_26 : decode cX8_room 26 = .ok (.invokevirtual 230, 3) := by decide +kernel
theorem dX8_room_29 : decode cX8_room 29 = .ok (.aload_n 0, 1) := by decide +kernel
theorem dX8_room_30 : decode cX8_room 30 = .ok (.getfield 215, 3) := by decide +kernel
theorem dX8_room_33 : decode cX8_room 33 = .ok (.istore_n 3, 1) := by decide +kernel
theorem dX8_room_34 : decode cX8_room 34 = .ok (.aload_n 0, 1) := by decide +kernel
theorem dX8_room_35 : decode cX8_room 35 = .ok (.getfield 218, 3) := by decide +kernel
theorem dX8_room_38 : decode cX8_room 38 = .ok (.istore 4, 2) := by decide +kernel
theorem dX8_room_40 : decode cX8_room 40 = .ok (.aload_n 0, 1) := by decide +kernel
theorem dX8_room_41 : decode cX8_room 41 = .ok (.iload_n 1, 1) := by decide +kernel
theorem dX8_room_42 : decode cX8_room 42 = .ok (.putfield 32, 3) := by decide +kernel
theorem dX8_room_45 : decode cX8_room 45 = .ok (.aload_n 0, 1) := by decide +kernel
theorem dX8_room_46 : decode cX8_room 46 = .ok (.bipush 10, 2) := by decide +kernel
theorem dX8_room_48 : decode cX8_room 48 = .ok (.putfield 109, 3) := by decide +kernel
theorem dX8_room_51 : decode cX8_room 51 = .ok (.aload_n 0, 1) := by decide +kernel
theorem dX8_room_52 : decode cX8_room 52 = .ok (.dup, 1) := by decide +kernel
theorem dX8_room_53 : decode cX8_room 53 = .ok (.getfield 109, 3) := by decide +kernel
theorem dX8_room_56 : decode cX8_room 56 = .ok (.iconst 1, 1) := by decide +kernel
theorem dX8_room_57 : decode cX8_room 57 = .ok (.isub, 1) := by decide +kernel
theorem dX8_room_58 : decode cX8_room 58 = .ok (.putfield 109, 3) := by decide +kernel
theorem dX8_room_61 : decode cX8_room 61 = .ok (.aload_n 0, 1) := by decide +kernel
theorem dX8_room_62 : decode cX8_room 62 = .ok (.iload_n 2, 1) := by decide +kernel
theorem dX8_room_63 : decode cX8_room 63 = .ok (.invokevirtual 230, 3) := by decide +kernel
theorem dX8_room_66 : decode cX8_room 66 = .ok (.aload_n 0, 1) := by decide +kernel
theorem dX8_room_67 : decode cX8_room 67 = .ok (.getfield 215, 3) := by decide +kernel
theorem dX8_room_70 : decode cX8_room 70 = .ok (.iload_n 3, 1) := by decide +kernel
theorem dX8_room_71 : decode cX8_room 71 = .ok (.if_icmp .ne (-20), 3) := by decide +kernel
theorem dX8_room_74 : decode cX8_room 74 = .ok (.aload_n 0, 1) := by decide +kernel
theorem dX8_room_75 : decode cX8_room 75 = .ok (.getfield 218, 3) := by decide +kernel
theorem dX8_room_78 : decode cX8_room 78 = .ok (.iload 4, 2) := by decide +kernel
theorem dX8_room_80 : decode cX8_room 80 = .ok (.if_icmp .ne (-29), 3) := by decide +kernel
theorem dX8_room_83 : decode cX8_room 83 = .ok (.aload_n 0, 1) := by decide +kernel
theorem dX8_room_84 : decode cX8_room 84 = .ok (.iconst (-1), 1) := by decide +kernel
theorem dX8_room_85 : decode cX8_room 85 = .ok (.putfield 32, 3) := by decide +kernel
theorem dX8_room_88 : decode cX8_room 88 = .ok (.aload_n 0, 1) := by decide +kernel
theorem dX8_room_89 : decode cX8_room 89 = .ok (.getfield 109, 3) := by decide +kernel
theorem dX8_room_92 : decode cX8_room 92 = .ok (.ireturn, 1) := by decide +kernel
def f_X8_room (N : Nat) (x1 : Int32) (M : Mem) : Option (Int32 × Mem) := bd (f_X8_isLine N x1 M) (fun v1 => if v1 = 0 then (some ((-2 : Int32), M)) else (bd (f_X8_laysRings N  M) (fun M4 => nm (((1 : Int32) <<< ((M4.1 0 1) &&& 31)) - (1 : Int32)) (fun v5 => bd (f_X8_ratios N v5 M4) (fun M7 => nm (M7.1 0 20) (fun v8 => nm (M7.1 0 21) (fun v9 => nm (setI M7 0 8 x1) (fun M10 => nm (setI M10 0 9 (10 : Int32)) (fun M11 => lp (fun (k51 : Mem → Option (Int32 × Mem)) (a51 : Mem) => nm (setI a51 0 9 ((a51.1 0 9) - (1 : Int32))) (fun M12 => bd (f_X8_ratios N v5 M12) (fun M14 => if (M14.1 0 20) = v8 then (if (M14.1 0 21) = v9 then (nm (setI M14 0 8 (-1 : Int32)) (fun M15 => some ((M15.1 0 9), M15))) else (k51 M14)) else (k51 M14)))) N M11)))))))))
set_option maxRecDepth 100000 in
set_option maxHeartbeats 4000000 in
theorem c_X8_room {l : Launch} {D : va_G} {ac : Nat → ClassId} {A : Nat → Prop} {ad : Nat → Nat} {rest : va_W} (N : Nat) (x1 : Int32)  (M : Mem) (r0 : Int32) (M0 : Mem) (hf : f_X8_room N x1 M = some (r0, M0)) : CtI l D ac A tabM ad rest yX8_room cX8_room 5 .int 6 [.ref (ad 0), .int x1] M r0 M0 := by
  refine ct_ofI (own := RX8) (by decide +kernel) rfl (Nat.le_of_ble_eq_true rfl) ?_
  intro p e s m args below meth c C
  unfold f_X8_room at hf
  refine a_L (L' := [(0, .ref (ad 0)), (1, .int x1)]) rfl ?_
  refine a_aload_n (pc := 0) C dX8_room_0 0 rfl ?_
  refine a_iload_n (pc := 1) C dX8_room_1 1 rfl ?_
  refine a_callV_Ir (pc := 2) (d' := 2) C dX8_room_2 ml_X8_134 mc_X8_isLine mv_X8_isLine tm_0 rfl [.int x1] rfl (Nat.le_of_ble_eq_true rfl) (Nat.le_of_ble_eq_true rfl) rfl (Nat.le_of_ble_eq_true rfl) (fun r h => c_X8_isLine N x1  _  r h) hf (fun v1 hf => ?_)
  refine a_if_ne (pc := 5) 11 C dX8_room_5 (by decide) hf (fun hf => ?_) (fun hf => ?_)
  · refine a_aload_n (pc := 11) C dX8_room_11 0 rfl ?_
    refine a_callV_V (pc := 12) (d' := 3) C dX8_room_12 ml_X8_227 mc_X8_laysRings mv_X8_laysRings tm_0 rfl [] rfl (Nat.le_of_ble_eq_true rfl) (Nat.le_of_ble_eq_true rfl) rfl (Nat.le_of_ble_eq_true rfl) (fun M' h => c_X8_laysRings N   _  M' h) hf (fun M4 hf => ?_)
    refine a_iconst (pc := 15) (v := 1) C dX8_room_15 (by decide) ?_
    refine a_aload_n (pc := 16) C dX8_room_16 0 rfl ?_
    refine a_getI (pc := 17) C dX8_room_17 fl_X8_102 tm_0 rfl ?_
    refine a_ishl (pc := 20) C dX8_room_20 ?_
    refine a_iconst (pc := 21) (v := 1) C dX8_room_21 (by decide) ?_
    refine a_isub (pc := 22) C dX8_room_22 ?_
    refine a_nmi hf (fun v5 hf => ?_)
    refine a_istore_n (pc := 23) [(2, .int v5), (0, .ref (ad 0)), (1, .int x1)] C dX8_room_23 (by decide) rfl ?_
    refine a_aload_n (pc := 24) C dX8_room_24 1 rfl ?_
    refine a_iload_n (pc := 25) C dX8_room_25 0 rfl ?_
    refine a_callV_V (pc := 26) (d' := 5) C dX8_room_26 ml_X8_230 mc_X8_ratios mv_X8_ratios tm_0 rfl [.int v5] rfl (Nat.le_of_ble_eq_true rfl) (Nat.le_of_ble_eq_true rfl) rfl (Nat.le_of_ble_eq_true rfl) (fun M' h => c_X8_ratios N v5  _  M' h) hf (fun M7 hf => ?_)
    refine a_aload_n (pc := 29) C dX8_room_29 1 rfl ?_
    refine a_getI (pc := 30) C dX8_room_30 fl_X8_215 tm_0 rfl ?_
    refine a_nmi hf (fun v8 hf => ?_)
    refine a_istore_n (pc := 33) [(3, .int v8), (2, .int v5), (0, .ref (ad 0)), (1, .int x1)] C dX8_room_33 (by decide) rfl ?_
    refine a_aload_n (pc := 34) C dX8_room_34 2 rfl ?_
    refine a_getI (pc := 35) C dX8_room_35 fl_X8_218 tm_0 rfl ?_
    refine a_nmi hf (fun v9 hf => ?_)
    refine a_istore (pc := 38) [(4, .int v9), (3, .int v8), (2, .int v5), (0, .ref (ad 0)), (1, .int x1)] C dX8_room_38 (by decide) rfl ?_
    refine a_aload_n (pc := 40) C dX8_room_40 3 rfl ?_
    refine a_iload_n (pc := 41) C dX8_room_41 4 rfl ?_
    refine a_putI (pc := 42) C dX8_room_42 fl_X8_32 tm_0 rfl hf (fun M10 hf => ?_)
    refine a_aload_n (pc := 45) C dX8_room_45 3 rfl ?_
    refine a_bipush (pc := 46) (v := 10) C dX8_room_46 (by decide) ?_
    refine a_putI (pc := 48) C dX8_room_48 fl_X8_109 tm_0 rfl hf (fun M11 hf => ?_)
    refine a_sub [3, 2, 1, 0] rfl ?_
    refine a_lp 51 (fun a51 : Mem => [(0, .ref (ad 0)), (2, .int v5), (3, .int v8), (4, .int v9)]) (fun a51 : Mem => []) (fun a51 : Mem => a51) (fun k51 a51 hk51 hf => ?_) N M11 hf
    refine a_aload_n (pc := 51) C dX8_room_51 0 rfl ?_
    refine a_dup (pc := 52) C dX8_room_52 rfl ?_
    refine a_getI (pc := 53) C dX8_room_53 fl_X8_109 tm_0 rfl ?_
    refine a_iconst (pc := 56) (v := 1) C dX8_room_56 (by decide) ?_
    refine a_isub (pc := 57) C dX8_room_57 ?_
    refine a_putI (pc := 58) C dX8_room_58 fl_X8_109 tm_0 rfl hf (fun M12 hf => ?_)
    refine a_aload_n (pc := 61) C dX8_room_61 0 rfl ?_
    refine a_iload_n (pc := 62) C dX8_room_62 1 rfl ?_
    refine a_callV_V (pc := 63) (d' := 5) C dX8_room_63 ml_X8_230 mc_X8_ratios mv_X8_ratios tm_0 rfl [.int v5] rfl (Nat.le_of_ble_eq_true rfl) (Nat.le_of_ble_eq_true rfl) rfl (Nat.le_of_ble_eq_true rfl) (fun M' h => c_X8_ratios N v5  _  M' h) hf (fun M14 hf => ?_)
    refine a_aload_n (pc := 66) C dX8_room_66 0 rfl ?_
    refine a_getI (pc := 67) C dX8_room_67 fl_X8_215 tm_0 rfl ?_
    refine a_iload_n (pc := 70) C dX8_room_70 2 rfl ?_
    refine a_icmp_ne (pc := 71) 51 C dX8_room_71 (by decide) hf (fun hf => ?_) (fun hf => ?_)
    · exact a_sub [0, 1, 2, 3] rfl (hk51 M14 hf)
    · refine a_aload_n (pc := 74) C dX8_room_74 0 rfl ?_
      refine a_getI (pc := 75) C dX8_room_75 fl_X8_218 tm_0 rfl ?_
      refine a_iload (pc := 78) C dX8_room_78 3 rfl ?_
      refine a_icmp_ne (pc := 80) 51 C dX8_room_80 (by decide) hf (fun hf => ?_) (fun hf => ?_)
      · exact a_sub [0, 1, 2, 3] rfl (hk51 M14 hf)
      · refine a_aload_n (pc := 83) C dX8_room_83 0 rfl ?_
        refine a_iconst (pc := 84) (v := (-1)) C dX8_room_84 (by decide) ?_
        refine a_putI (pc := 85) C dX8_room_85 fl_X8_32 tm_0 rfl hf (fun M15 hf => ?_)
        refine a_aload_n (pc := 88) C dX8_room_88 0 rfl ?_
        refine a_getI (pc := 89) C dX8_room_89 fl_X8_109 tm_0 rfl ?_
        exact a_iret (pc := 92) C dX8_room_92 (so_1 hf) (so_2 hf)
  · refine a_bipush (pc := 8) (v := (-2)) C dX8_room_8 (by decide) ?_
    exact a_iret (pc := 10) C dX8_room_10 (so_1 hf) (so_2 hf)
theorem dX8_arcs_0 : decode cX8_arcs 0 = .ok (.aload_n 0, 1) := by decide +kernel
theorem dX8_arcs_1 : decode cX8_arcs 1 = .ok (.iload_n 1, 1) := by decide +kernel
theorem dX8_arcs_2 : decode cX8_arcs 2 = .ok (.iload_n 2, 1) := by decide +kernel
theorem dX8_arcs_3 : decode cX8_arcs 3 = .ok (.iload_n 3, 1) := by decide +kernel
theorem dX8_arcs_4 : decode cX8_arcs 4 = .ok (.invokevirtual 255, 3) := by decide +kernel
theorem dX8_arcs_7 : decode cX8_arcs 7 = .ok (.istore 4, 2) := by decide +kernel
theorem dX8_arcs_9 : decode cX8_arcs 9 = .ok (.iload 4, 2) := by decide +kernel
theorem dX8_arcs_11 : decode cX8_arcs 11 = .ok (.ifCond .eq 8, 3) := by decide +kernel
theorem dX8_arcs_14 : decode cX8_arcs 14 = .ok (.iload 4, 2) := by decide +kernel
theorem dX8_arcs_16 : decode cX8_arcs 16 = .ok (.goto 22, 3) := by decide +kernel
theorem dX8_arcs_19 : decode cX8_arcs 19 = .ok (.aload_n 0, 1) := by decide +kernel
theorem dX8_arcs_20 : decode cX8_arcs 20 = .ok (.iconst 0, 1) := by decide +kernel
theorem dX8_arcs_21 : decode cX8_arcs 21 = .ok (.invokevirtual 258, 3) := by decide +kernel
theorem dX8_arcs_24 : decode cX8_arcs 24 = .ok (.i2l, 1) := by decide +kernel
theorem dX8_arcs_25 : decode cX8_arcs 25 = .ok (.invokestatic 162, 3) := by decide +kernel
theorem dX8_arcs_28 : decode cX8_arcs 28 = .ok (.aload_n 0, 1) := by decide +kernel
theorem dX8_arcs_29 : decode cX8_arcs 29 = .ok (.iconst 1, 1) := by decide +kernel
theorem dX8_arcs_30 : decode cX8_arcs 30 = .ok (.invokevirtual 258, 3) := by decide +kernel
theorem dX8_arcs_33 : decode cX8_arcs 33 = .ok (.i2l, 1) := by decide +kernel
theorem dX8_arcs_34 : decode cX8_arcs 34 = .ok (.invokestatic 162, 3) := by decide +kernel
theorem dX8_arcs_37 : decode cX8_arcs 37 = .ok (.iadd, 1) := by decide +kernel
theorem dX8_arcs_38 : decode cX8_arcs 38 = .ok (.ireturn, 1) := by decide +kernel
def f_X8_arcs (N : Nat) (x1 : Int32) (x2 : Int32) (x3 : Int32) (M : Mem) : Option (Int32 × Mem) := bd (f_X8_wrongColouring N x1 x2 x3 M) (fun w3 => if w3.1 = 0 then (bd (f_X8_tightLines N (0 : Int32) w3.2) (fun v4 => bd (f_X8_bits N v4.toInt64 w3.2) (fun v6 => bd (f_X8_tightLines N (1 : Int32) w3.2) (fun v8 => bd (f_X8_bits N v8.toInt64 w3.2) (fun v10 => some ((v6 + v10), w3.2)))))) else (some (w3.1, w3.2)))
set_option maxRecDepth 100000 in
set_option maxHeartbeats 4000000 in
theorem c_X8_arcs {l : Launch} {D : va_G} {ac : Nat → ClassId} {A : Nat → Prop} {ad : Nat → Nat} {rest : va_W} (N : Nat) (x1 : Int32) (x2 : Int32) (x3 : Int32)  (M : Mem) (r0 : Int32) (M0 : Mem) (hf : f_X8_arcs N x1 x2 x3 M = some (r0, M0)) : CtI l D ac A tabM ad rest yX8_arcs cX8_arcs 5 .int 6 [.ref (ad 0), .int x1, .int x2, .int x3] M r0 M0 := by
  refine ct_ofI (own := RX8) (by decide +kernel) rfl (Nat.le_of_ble_eq_true rfl) ?_
  intro p e s m args below meth c C
  unfold f_X8_arcs at hf
  refine a_L (L' := [(0, .ref (ad 0)), (1, .int x1), (2, .int x2), (3, .int x3)]) rfl ?_
  refine a_aload_n (pc := 0) C dX8_arcs_0 0 rfl ?_
  refine a_iload_n (pc := 1) C dX8_arcs_1 1 rfl ?_
  refine a_iload_n (pc := 2) C dX8_arcs_2 2 rfl ?_
  refine a_iload_n (pc := 3) C dX8_arcs_3 3 rfl ?_
  refine a_callV_I (pc := 4) (d' := 5) C dX8_arcs_4 ml_X8_255 mc_X8_wrongColouring mv_X8_wrongColouring tm_0 rfl [.int x1, .int x2, .int x3] rfl (Nat.le_of_ble_eq_true rfl) (Nat.le_of_ble_eq_true rfl) rfl (Nat.le_of_ble_eq_true rfl) (fun r M' h => c_X8_wrongColouring N x1 x2 x3  _  r M' h) hf (fun v1 M2 hf => ?_)
  refine a_istore (pc := 7) [(4, .int v1), (0, .ref (ad 0)), (1, .int x1), (2, .int x2), (3, .int x3)] C dX8_arcs_7 (by decide) rfl ?_
  refine a_iload (pc := 9) C dX8_arcs_9 0 rfl ?_
  refine a_if_eq (pc := 11) 19 C dX8_arcs_11 (by decide) hf (fun hf => ?_) (fun hf => ?_)
  · refine a_aload_n (pc := 19) C dX8_arcs_19 1 rfl ?_
    refine a_iconst (pc := 20) (v := 0) C dX8_arcs_20 (by decide) ?_
    refine a_callV_Ir (pc := 21) (d' := 3) C dX8_arcs_21 ml_X8_258 mc_X8_tightLines mv_X8_tightLines tm_0 rfl [.int (0 : Int32)] rfl (Nat.le_of_ble_eq_true rfl) (Nat.le_of_ble_eq_true rfl) rfl (Nat.le_of_ble_eq_true rfl) (fun r h => c_X8_tightLines N (0 : Int32)  _  r h) hf (fun v4 hf => ?_)
    refine a_i2l (pc := 24) C dX8_arcs_24 ?_
    refine a_callS_Ir (pc := 25) (d' := 1) C dX8_arcs_25 ml_X8_162 mc_X8_bits ms_X8_bits [.long v4.toInt64] rfl (Nat.le_of_ble_eq_true rfl) (Nat.le_of_ble_eq_true rfl) rfl (Nat.le_of_ble_eq_true rfl) (fun r h => c_X8_bits N v4.toInt64  _  r h) hf (fun v6 hf => ?_)
    refine a_aload_n (pc := 28) C dX8_arcs_28 1 rfl ?_
    refine a_iconst (pc := 29) (v := 1) C dX8_arcs_29 (by decide) ?_
    refine a_callV_Ir (pc := 30) (d' := 3) C dX8_arcs_30 ml_X8_258 mc_X8_tightLines mv_X8_tightLines tm_0 rfl [.int (1 : Int32)] rfl (Nat.le_of_ble_eq_true rfl) (Nat.le_of_ble_eq_true rfl) rfl (Nat.le_of_ble_eq_true rfl) (fun r h => c_X8_tightLines N (1 : Int32)  _  r h) hf (fun v8 hf => ?_)
    refine a_i2l (pc := 33) C dX8_arcs_33 ?_
    refine a_callS_Ir (pc := 34) (d' := 1) C dX8_arcs_34 ml_X8_162 mc_X8_bits ms_X8_bits [.long v8.toInt64] rfl (Nat.le_of_ble_eq_true rfl) (Nat.le_of_ble_eq_true rfl) rfl (Nat.le_of_ble_eq_true rfl) (fun r h => c_X8_bits N v8.toInt64  _  r h) hf (fun v10 hf => ?_)
    refine a_iadd (pc := 37) C dX8_arcs_37 ?_
    exact a_iret (pc := 38) C dX8_arcs_38 (so_1 hf) (so_2 hf)
  · refine a_iload (pc := 14) C dX8_arcs_14 0 rfl ?_
    refine a_goto (pc := 16) 38 C dX8_arcs_16 (by decide) ?_
    exact a_iret (pc := 38) C dX8_arcs_38 (so_1 hf) (so_2 hf)
theorem dX8_tight_0 : decode cX8_tight 0 = .ok (.iload 4, 2) := by decide +kernel
theorem dX8_tight_2 : decode cX8_tight 2 = .ok (.i2l, 1) := by decide +kernel
theorem dX8_tight_3 : decode cX8_tight 3 = .ok (.lconst 0, 1) := by decide +kernel
theorem dX8_tight_4 : decode cX8_tight 4 = .ok (.lconst 1, 1) := by decide +kernel
theorem dX8_tight_5 : decode cX8_tight 5 = .ok (.invokestatic 98, 3) := by decide +kernel
theorem dX8_tight_8 : decode cX8_tight 8 = .ok (.ifCond .eq 13, 3) := by decide +kernel
theorem dX8_tight_11 : decode cX8_tight 11 = .ok (.aload_n 0, 1) := by decide +kernel
theorem dX8_tight_12 : decode cX8_tight 12 = .ok (.iload_n 1, 1) := by decide +kernel
theorem dX8_tight_13 : decode cX8_tight 13 = .ok (.iload_n 2, 1) := by decide +kernel
theorem dX8_tight_14 : decode cX8_tight 14 = .ok (.iload_n 3, 1) := by decide +kernel
theorem dX8_tight_15 : decode cX8_tight 15 = .ok (.invokevirtual 255, 3) := by decide +kernel
theorem dX8_tight_18 : decode cX8_tight 18 = .ok (.goto 5, 3) := by decide +kernel
theorem dX8_tight_21 : decode cX8_tight 21 = .ok (.bipush (-2), 2) := by decide +kernel
theorem dX8_tight_23 : decode cX8_tight 23 = .ok (.istore 5, 2) := by decide +kernel
theorem dX8_tight_25 : decode cX8_tight 25 = .ok (.iload 5, 2) := by decide +kernel
theorem dX8_tight_27 : decode cX8_tight 27 = .ok (.ifCond .eq 6, 3) := by decide +kernel
theorem dX8_tight_30 : decode cX8_tight 30 = .ok (.iload 5, 2) := by decide +kernel
theorem dX8_tight_32 : decode cX8_tight 32 = .ok (.ireturn, 1) := by decide +kernel
theorem dX8_tight_33 : decode cX8_tight 33 = .ok (.aload_n 0, 1) := by decide +kernel
theorem dX8_tight_34 : decode cX8_tight 34 = .ok (.invokevirtual 227, 3) := by decide +kernel
theorem dX8_tight_37 : decode cX8_tight 37 = .ok (.aload_n 0, 1) := by decide +kernel
theorem dX8_tight_38 : decode cX8_tight 38 = .ok (.iconst 0, 1) := by decide +kernel
theorem dX8_tight_39 : decode cX8_tight 39 = .ok (.invokevirtual 258, 3) := by decide +kernel
theorem dX8_tight_42 : decode cX8_tight 42 = .ok (.istore 6, 2) := by decide +kernel
theorem dX8_tight_44 : decode cX8_tight 44 = .ok (.aload_n 0, 1) := by decide +kernel
theorem dX8_tight_45 : decode cX8_tight 45 = .ok (.iconst 1, 1) := by decide +kernel
theorem dX8_tight_46 : decode cX8_tight 46 = .ok (.invokevirtual 258, 3) := by decide +kernel
theorem dX8_tight_49 : decode cX8_tight 49 = .ok (.istore 7, 2) := by decide +kernel
theorem dX8_tight_51 : decode cX8_tight 51 = .ok (.iconst 0, 1) := by decide +kernel
theorem dX8_tight_52 : decode cX8_tight 52 = .ok (.istore 8, 2) := by decide +kernel
theorem dX8_tight_54 : decode cX8_tight 54 = .ok (.iload 8, 2) := by decide +kernel
theorem dX8_tight_56 : decode cX8_tight 56 = .ok (.aload_n 0, 1) := by decide +kernel
theorem dX8_tight_57 : decode cX8_tight 57 = .ok (.getfield 197, 3) := by decide +kernel
theorem dX8_tight_60 : decode cX8_tight 60 = .ok (.if_icmp .ge 131, 3) := by decide +kernel
theorem dX8_tight_63 : decode cX8_tight 63 = .ok (.aload_n 0, 1) := by decide +kernel
theorem dX8_tight_64 : decode cX8_tight 64 = .ok (.getfield 41, 3) := by decide +kernel
theorem dX8_tight_67 : decode cX8_tight 67 = .ok (.iload 8, 2) := by decide +kernel
theorem dX8_tight_69 : decode cX8_tight 69 = .ok (.iaload, 1) := by decide +kernel
theorem dX8_tight_70 : decode cX8_tight 70 = .ok (.istore 9, 2) := by decide +kernel
theorem dX8_tight_72 : decode cX8_tight 72 = .ok (.aload_n 0, 1) := by decide +kernel
theorem dX8_tight_73 : decode cX8_tight 73 = .ok (.getfield 44, 3) := by decide +kernel
theorem dX8_tight_76 : decode cX8_tight 76 = .ok (.iload 8, 2) := by decide +kernel
theorem dX8_tight_78 : decode cX8_tight 78 = .ok (.iaload, 1) := by decide +kernel
theorem dX8_tight_79 : decode cX8_tight 79 = .ok (.istore 10, 2) := by decide +kernel
theorem dX8_tight_81 : decode cX8_tight 81 = .ok (.iload 9, 2) := by decide +kernel
theorem dX8_tight_83 : decode cX8_tight 83 = .ok (.i2l, 1) := by decide +kernel
theorem dX8_tight_84 : decode cX8_tight 84 = .ok (.invokestatic 162, 3) := by decide +kernel
theorem dX8_tight_87 : decode cX8_tight 87 = .ok (.iconst 1, 1) := by decide +kernel
theorem dX8_tight_88 : decode cX8_tight 88 = .ok (.if_icmp .ne 22, 3) := by decide +kernel
theorem dX8_tight_91 : decode cX8_tight 91 = .ok (.iload 9, 2) := by decide +kernel
theorem dX8_tight_93 : decode cX8_tight 93 = .ok (.iload 6, 2) := by decide +kernel
theorem dX8_tight_95 : decode cX8_tight 95 = .ok (.iand, 1) := by decide +kernel
theorem dX8_tight_96 : decode cX8_tight 96 = .ok (.iload 7, 2) := by decide +kernel
theorem dX8_tight_98 : decode cX8_tight 98 = .ok (.iand, 1) := by decide +kernel
theorem dX8_tight_99 : decode cX8_tight 99 = .ok (.ifCond .eq 7, 3) := by decide +kernel
theorem dX8_tight_102 : decode cX8_tight 102 = .ok (.iconst 1, 1) := by decide +kernel
theorem dX8_tight_103 : decode cX8_tight 103 = .ok (.goto 54, 3) := by decide +kernel
theorem dX8_tight_106 : decode cX8_tight 106 = .ok (.iconst 0, 1) := by decide +kernel
theorem dX8_tight_107 : decode cX8_tight 107 = .ok (.goto 50, 3) := by decide +kernel
theorem dX8_tight_110 : decode cX8_tight 110 = .ok (.iload 9, 2) := by decide +kernel
theorem dX8_tight_112 : decode cX8_tight 112 = .ok (.iload 10, 2) := by decide +kernel
theorem dX8_tight_114 : decode cX8_tight 114 = .ok (.iload 7, 2) := by decide +kernel
theorem dX8_tight_116 : decode cX8_tight 116 = .ok (.iand, 1) := by decide +kernel
theorem dX8_tight_117 : decode cX8_tight 117 = .ok (.iload 10, 2) := by decide +kernel
theorem dX8_tight_119 : decode cX8_tight 119 = .ok (.iconst (-1), 1) := by decide +kernel
theorem dX8_tight_120 : decode cX8_tight 120 = .ok (.ixor, 1) := by decide +kernel
theorem dX8_tight_121 : decode cX8_tight 121 = .ok (.iload 6, 2) := by decide +kernel
theorem dX8_tight_123 : decode cX8_tight 123 = .ok (.iand, 1) := by decide +kernel
theorem dX8_tight_124 : decode cX8_tight 124 = .ok (.ior, 1) := by decide +kernel
theorem dX8_tight_125 : decode cX8_tight 125 = .ok (.iconst (-1), 1) := by decide +kernel
theorem dX8_tight_126 : decode cX8_tight 126 = .ok (.ixor, 1) := by decide +kernel
theorem dX8_tight_127 : decode cX8_tight 127 = .ok (.iand, 1) := by decide +kernel
theorem dX8_tight_128 : decode cX8_tight 128 = .ok (.ifCond .eq 24, 3) := by decide +kernel
theorem dX8_tight_131 : decode cX8_tight 131 = .ok (.iload 9, 2) := by decide +kernel
theorem dX8_tight_133 : decode cX8_tight 133 = .ok (.iload 10, 2) := by decide +kernel
theorem dX8_tight_135 : decode cX8_tight 135 = .ok (.iload 6, 2) := by decide +kernel
theorem dX8_tight_137 : decode cX8_tight 137 = .ok (.iand, 1) := by decide +kernel
theorem dX8_tight_138 : decode cX8_tight 138 = .ok (.iload 10, 2) := by decide +kernel
theorem dX8_tight_140 : decode cX8_tight 140 = .ok (.iconst (-1), 1) := by decide +kernel
theorem dX8_tight_141 : decode cX8_tight 141 = .ok (.ixor, 1) := by decide +kernel
theorem dX8_tight_142 : decode cX8_tight 142 = .ok (.iload 7, 2) := by decide +kernel
theorem dX8_tight_144 : decode cX8_tight 144 = .ok (.iand, 1) := by decide +kernel
theorem dX8_tight_145 : decode cX8_tight 145 = .ok (.ior, 1) := by decide +kernel
theorem dX8_tight_146 : decode cX8_tight 146 = .ok (.iconst (-1), 1) := by decide +kernel
theorem dX8_tight_147 : decode cX8_tight 147 = .ok (.ixor, 1) := by decide +kernel
theorem dX8_tight_148 : decode cX8_tight 148 = .ok (.iand, 1) := by decide +kernel
theorem dX8_tight_149 : decode cX8_tight 149 = .ok (.ifCond .ne 7, 3) := by decide +kernel
theorem dX8_tight_152 : decode cX8_tight 152 = .ok (.iconst 1, 1) := by decide +kernel
theorem dX8_tight_153 : decode cX8_tight 153 = .ok (.goto 4, 3) := by decide +kernel
theorem dX8_tight_156 : decode cX8_tight 156 = .ok (.iconst 0, 1) := by decide +kernel
theorem dX8_tight_157 : decode cX8_tight 157 = .ok (.istore 11, 2) := by decide +kernel
theorem dX8_tight_159 : decode cX8_tight 159 = .ok (.iload 11, 2) := by decide +kernel
theorem dX8_tight_161 : decode cX8_tight 161 = .ok (.ifCond .eq 24, 3) := by decide +kernel
theorem dX8_tight_164 : decode cX8_tight 164 = .ok (.iload 4, 2) := by decide +kernel
theorem dX8_tight_166 : decode cX8_tight 166 = .ok (.ifCond .ne 8, 3) := by decide +kernel
theorem dX8_tight_169 : decode cX8_tight 169 = .ok (.iload 9, 2) := by decide +kernel
theorem dX8_tight_171 : decode cX8_tight 171 = .ok (.goto 13, 3) := by decide +kernel
theorem dX8_tight_174 : decode cX8_tight 174 = .ok (.iload_n 3, 1) := by decide +kernel
theorem dX8_tight_175 : decode cX8_tight 175 = .ok (.aload_n 0, 1) := by decide +kernel
theorem dX8_tight_176 : decode cX8_tight 176 = .ok (.iload 9, 2) := by decide +kernel
theorem dX8_tight_178 : decode cX8_tight 178 = .ok (.invokevirtual 212, 3) := by decide +kernel
theorem dX8_tight_181 : decode cX8_tight 181 = .ok (.imul, 1) := by decide +kernel
theorem dX8_tight_182 : decode cX8_tight 182 = .ok (.iload_n 2, 1) := by decide +kernel
theorem dX8_tight_183 : decode cX8_tight 183 = .ok (.idiv, 1) := by decide +kernel
theorem dX8_tight_184 : decode cX8_tight 184 = .ok (.ireturn, 1) := by decide +kernel
theorem dX8_tight_185 : decode cX8_tight 185 = .ok (.iinc 8 1, 3) := by decide +kernel
theorem dX8_tight_188 : decode cX8_tight 188 = .ok (.goto (-134), 3) := by decide +kernel
theorem dX8_tight_191 : decode cX8_tight 191 = .ok (.iconst (-1), 1) := by decide +kernel
theorem dX8_tight_192 : decode cX8_tight 192 = .ok (.ireturn, 1) := by decide +kernel
def f_X8_tight (N : Nat) (x1 : Int32) (x2 : Int32) (x3 : Int32) (x4 : Int32) (M : Mem) : Option (Int32 × Mem) := bd (f_X8_in N x4.toInt64 (0 : Int64) (1 : Int64) M) (fun v1 => jn (fun (a23 : Int32 × Mem) => if a23.1 = 0 then (bd (f_X8_laysRings N  a23.2) (fun M4 => bd (f_X8_tightLines N (0 : Int32) M4) (fun v5 => bd (f_X8_tightLines N (1 : Int32) M4) (fun v7 => lp (fun (k54 : Int32 → Option (Int32 × Mem)) (a54 : Int32) => if (M4.1 0 17) ≤ a54 then (some ((-1 : Int32), M4)) else (ck (inb a54 200) (nm (M4.1 8 a54.toNatClampNeg) (fun v9 => ck (inb a54 200) (nm (M4.1 9 a54.toNatClampNeg) (fun v10 => bd (f_X8_bits N v9.toInt64 M4) (fun v11 => jn (fun (a157 : Int32) => if a157 = 0 then (nm (a54 + (1 : Int32)) (fun v13 => k54 v13)) else (if x4 = 0 then (some (v9, M4)) else (bd (f_X8_length N v9 M4) (fun v14 => ck (¬ x2 = 0) (some (((x3 * v14) / x2), M4)))))) (fun (k157 : Int32 → Option (Int32 × Mem)) => if v11 = (1 : Int32) then (if ((v9 &&& v5) &&& v7) = 0 then (k157 (0 : Int32)) else (k157 (1 : Int32))) else (jn (fun (a152 : Unit) => k157 (1 : Int32)) (fun (k152 : Unit → Option (Int32 × Mem)) => if (v9 &&& (((v10 &&& v7) ||| ((v10 ^^^ (-1 : Int32)) &&& v5)) ^^^ (-1 : Int32))) = 0 then (k152 ()) else (if (v9 &&& (((v10 &&& v5) ||| ((v10 ^^^ (-1 : Int32)) &&& v7)) ^^^ (-1 : Int32))) = 0 then (k152 ()) else (k157 (0 : Int32))))))))))))) N (0 : Int32))))) else (some (a23.1, a23.2))) (fun (k23 : (Int32 × Mem) → Option (Int32 × Mem)) => if v1 = 0 then (k23 ((-2 : Int32), M)) else (bd (f_X8_wrongColouring N x1 x2 x3 M) (fun w18 => k23 (w18.1, w18.2)))))
set_option maxRecDepth 100000 in
set_option maxHeartbeats 4000000 in
theorem c_X8_tight {l : Launch} {D : va_G} {ac : Nat → ClassId} {A : Nat → Prop} {ad : Nat → Nat} {rest : va_W} (N : Nat) (x1 : Int32) (x2 : Int32) (x3 : Int32) (x4 : Int32)  (M : Mem) (r0 : Int32) (M0 : Mem) (hf : f_X8_tight N x1 x2 x3 x4 M = some (r0, M0)) : CtI l D ac A tabM ad rest yX8_tight cX8_tight 12 .int 6 [.ref (ad 0), .int x1, .int x2, .int x3, .int x4] M r0 M0 := by
  refine ct_ofI (own := RX8) (by decide +kernel) rfl (Nat.le_of_ble_eq_true rfl) ?_
  intro p e s m args below meth c C
  unfold f_X8_tight at hf
  refine a_L (L' := [(0, .ref (ad 0)), (1, .int x1), (2, .int x2), (3, .int x3), (4, .int x4)]) rfl ?_
  refine a_iload (pc := 0) C dX8_tight_0 4 rfl ?_
  refine a_i2l (pc := 2) C dX8_tight_2 ?_
  refine a_lconst (pc := 3) (v := 0) C dX8_tight_3 (by decide) ?_
  refine a_lconst (pc := 4) (v := 1) C dX8_tight_4 (by decide) ?_
  refine a_callS_Ir (pc := 5) (d' := 1) C dX8_tight_5 ml_X8_98 mc_X8_in ms_X8_in [.long x4.toInt64, .long (0 : Int64), .long (1 : Int64)] rfl (Nat.le_of_ble_eq_true rfl) (Nat.le_of_ble_eq_true rfl) rfl (Nat.le_of_ble_eq_true rfl) (fun r h => c_X8_in N x4.toInt64 (0 : Int64) (1 : Int64)  _  r h) hf (fun v1 hf => ?_)
  refine a_jn 23 (fun a23 : Int32 × Mem => [(0, .ref (ad 0)), (2, .int x2), (3, .int x3), (4, .int x4)]) (fun a23 : Int32 × Mem => [.int a23.1]) (fun a23 : Int32 × Mem => a23.2) hf (fun a23 hf => ?_) (fun k23 hk23 hf => ?_)
  · refine a_istore (pc := 23) [(5, .int a23.1), (0, .ref (ad 0)), (2, .int x2), (3, .int x3), (4, .int x4)] C dX8_tight_23 (by decide) rfl ?_
    refine a_iload (pc := 25) C dX8_tight_25 0 rfl ?_
    refine a_if_eq (pc := 27) 33 C dX8_tight_27 (by decide) hf (fun hf => ?_) (fun hf => ?_)
    · refine a_aload_n (pc := 33) C dX8_tight_33 1 rfl ?_
      refine a_callV_V (pc := 34) (d' := 3) C dX8_tight_34 ml_X8_227 mc_X8_laysRings mv_X8_laysRings tm_0 rfl [] rfl (Nat.le_of_ble_eq_true rfl) (Nat.le_of_ble_eq_true rfl) rfl (Nat.le_of_ble_eq_true rfl) (fun M' h => c_X8_laysRings N   _  M' h) hf (fun M4 hf => ?_)
      refine a_aload_n (pc := 37) C dX8_tight_37 1 rfl ?_
      refine a_iconst (pc := 38) (v := 0) C dX8_tight_38 (by decide) ?_
      refine a_callV_Ir (pc := 39) (d' := 3) C dX8_tight_39 ml_X8_258 mc_X8_tightLines mv_X8_tightLines tm_0 rfl [.int (0 : Int32)] rfl (Nat.le_of_ble_eq_true rfl) (Nat.le_of_ble_eq_true rfl) rfl (Nat.le_of_ble_eq_true rfl) (fun r h => c_X8_tightLines N (0 : Int32)  _  r h) hf (fun v5 hf => ?_)
      refine a_istore (pc := 42) [(6, .int v5), (5, .int a23.1), (0, .ref (ad 0)), (2, .int x2), (3, .int x3), (4, .int x4)] C dX8_tight_42 (by decide) rfl ?_
      refine a_aload_n (pc := 44) C dX8_tight_44 2 rfl ?_
      refine a_iconst (pc := 45) (v := 1) C dX8_tight_45 (by decide) ?_
      refine a_callV_Ir (pc := 46) (d' := 3) C dX8_tight_46 ml_X8_258 mc_X8_tightLines mv_X8_tightLines tm_0 rfl [.int (1 : Int32)] rfl (Nat.le_of_ble_eq_true rfl) (Nat.le_of_ble_eq_true rfl) rfl (Nat.le_of_ble_eq_true rfl) (fun r h => c_X8_tightLines N (1 : Int32)  _  r h) hf (fun v7 hf => ?_)
      refine a_istore (pc := 49) [(7, .int v7), (6, .int v5), (5, .int a23.1), (0, .ref (ad 0)), (2, .int x2), (3, .int x3), (4, .int x4)] C dX8_tight_49 (by decide) rfl ?_
      refine a_iconst (pc := 51) (v := 0) C dX8_tight_51 (by decide) ?_
      refine a_istore (pc := 52) [(8, .int (0 : Int32)), (7, .int v7), (6, .int v5), (5, .int a23.1), (0, .ref (ad 0)), (2, .int x2), (3, .int x3), (4, .int x4)] C dX8_tight_52 (by decide) rfl ?_
      refine a_sub [4, 5, 6, 7, 2, 1, 0] rfl ?_
      refine a_lp 54 (fun a54 : Int32 => [(0, .ref (ad 0)), (2, .int x2), (3, .int x3), (4, .int x4), (6, .int v5), (7, .int v7), (8, .int a54)]) (fun a54 : Int32 => []) (fun a54 : Int32 => M4) (fun k54 a54 hk54 hf => ?_) N (0 : Int32) hf
      refine a_iload (pc := 54) C dX8_tight_54 6 rfl ?_
      refine a_aload_n (pc := 56) C dX8_tight_56 0 rfl ?_
      refine a_getI (pc := 57) C dX8_tight_57 fl_X8_197 tm_0 rfl ?_
      refine a_icmp_ge (pc := 60) 191 C dX8_tight_60 (by decide) hf (fun hf => ?_) (fun hf => ?_)
      · refine a_iconst (pc := 191) (v := (-1)) C dX8_tight_191 (by decide) ?_
        exact a_iret (pc := 192) C dX8_tight_192 (so_1 hf) (so_2 hf)
      · refine a_aload_n (pc := 63) C dX8_tight_63 0 rfl ?_
        refine a_getR (pc := 64) C dX8_tight_64 fl_X8_41 tm_0 rfl ?_
        refine a_iload (pc := 67) C dX8_tight_67 6 rfl ?_
        refine a_iald (pc := 69) C dX8_tight_69 tm_8 hf (fun hf => ?_)
        refine a_nmi hf (fun v9 hf => ?_)
        refine a_istore (pc := 70) [(9, .int v9), (0, .ref (ad 0)), (2, .int x2), (3, .int x3), (4, .int x4), (6, .int v5), (7, .int v7), (8, .int a54)] C dX8_tight_70 (by decide) rfl ?_
        refine a_aload_n (pc := 72) C dX8_tight_72 1 rfl ?_
        refine a_getR (pc := 73) C dX8_tight_73 fl_X8_44 tm_0 rfl ?_
        refine a_iload (pc := 76) C dX8_tight_76 7 rfl ?_
        refine a_iald (pc := 78) C dX8_tight_78 tm_9 hf (fun hf => ?_)
        refine a_nmi hf (fun v10 hf => ?_)
        refine a_istore (pc := 79) [(10, .int v10), (9, .int v9), (0, .ref (ad 0)), (2, .int x2), (3, .int x3), (4, .int x4), (6, .int v5), (7, .int v7), (8, .int a54)] C dX8_tight_79 (by decide) rfl ?_
        refine a_iload (pc := 81) C dX8_tight_81 1 rfl ?_
        refine a_i2l (pc := 83) C dX8_tight_83 ?_
        refine a_callS_Ir (pc := 84) (d' := 1) C dX8_tight_84 ml_X8_162 mc_X8_bits ms_X8_bits [.long v9.toInt64] rfl (Nat.le_of_ble_eq_true rfl) (Nat.le_of_ble_eq_true rfl) rfl (Nat.le_of_ble_eq_true rfl) (fun r h => c_X8_bits N v9.toInt64  _  r h) hf (fun v11 hf => ?_)
        refine a_iconst (pc := 87) (v := 1) C dX8_tight_87 (by decide) ?_
        refine a_jn 157 (fun a157 : Int32 => [(0, .ref (ad 0)), (2, .int x2), (3, .int x3), (4, .int x4), (6, .int v5), (7, .int v7), (8, .int a54), (9, .int v9)]) (fun a157 : Int32 => [.int a157]) (fun a157 : Int32 => M4) hf (fun a157 hf => ?_) (fun k157 hk157 hf => ?_)
        · refine a_istore (pc := 157) [(11, .int a157), (0, .ref (ad 0)), (2, .int x2), (3, .int x3), (4, .int x4), (6, .int v5), (7, .int v7), (8, .int a54), (9, .int v9)] C dX8_tight_157 (by decide) rfl ?_
          refine a_iload (pc := 159) C dX8_tight_159 0 rfl ?_
          refine a_if_eq (pc := 161) 185 C dX8_tight_161 (by decide) hf (fun hf => ?_) (fun hf => ?_)
          · refine a_iinc (pc := 185) (v := 1) (fun v13 => [(8, .int v13), (11, .int a157), (0, .ref (ad 0)), (2, .int x2), (3, .int x3), (4, .int x4), (6, .int v5), (7, .int v7), (9, .int v9)]) C dX8_tight_185 7 rfl (by decide) (by decide) (fun _ => rfl) hf (fun v13 hf => ?_)
            refine a_goto (pc := 188) 54 C dX8_tight_188 (by decide) ?_
            exact a_sub [2, 3, 4, 5, 6, 7, 0] rfl (hk54 v13 hf)
          · refine a_iload (pc := 164) C dX8_tight_164 4 rfl ?_
            refine a_if_ne (pc := 166) 174 C dX8_tight_166 (by decide) hf (fun hf => ?_) (fun hf => ?_)
            · refine a_iload_n (pc := 174) C dX8_tight_174 3 rfl ?_
              refine a_aload_n (pc := 175) C dX8_tight_175 1 rfl ?_
              refine a_iload (pc := 176) C dX8_tight_176 8 rfl ?_
              refine a_callV_Ir (pc := 178) (d' := 3) C dX8_tight_178 ml_X8_212 mc_X8_length mv_X8_length tm_0 rfl [.int v9] rfl (Nat.le_of_ble_eq_true rfl) (Nat.le_of_ble_eq_true rfl) rfl (Nat.le_of_ble_eq_true rfl) (fun r h => c_X8_length N v9  _  r h) hf (fun v14 hf => ?_)
              refine a_imul (pc := 181) C dX8_tight_181 ?_
              refine a_iload_n (pc := 182) C dX8_tight_182 2 rfl ?_
              refine a_idiv (pc := 183) C dX8_tight_183 hf (fun hf => ?_)
              exact a_iret (pc := 184) C dX8_tight_184 (so_1 hf) (so_2 hf)
            · refine a_iload (pc := 169) C dX8_tight_169 8 rfl ?_
              refine a_goto (pc := 171) 184 C dX8_tight_171 (by decide) ?_
              exact a_iret (pc := 184) C dX8_tight_184 (so_1 hf) (so_2 hf)
        · refine a_icmp_ne (pc := 88) 110 C dX8_tight_88 (by decide) hf (fun hf => ?_) (fun hf => ?_)
          · refine a_iload (pc := 110) C dX8_tight_110 1 rfl ?_
            refine a_iload (pc := 112) C dX8_tight_112 0 rfl ?_
            refine a_iload (pc := 114) C dX8_tight_114 7 rfl ?_
            refine a_iand (pc := 116) C dX8_tight_116 ?_
            refine a_iload (pc := 117) C dX8_tight_117 0 rfl ?_
            refine a_iconst (pc := 119) (v := (-1)) C dX8_tight_119 (by decide) ?_
            refine a_ixor (pc := 120) C dX8_tight_120 ?_
            refine a_iload (pc := 121) C dX8_tight_121 6 rfl ?_
            refine a_iand (pc := 123) C dX8_tight_123 ?_
            refine a_ior (pc := 124) C dX8_tight_124 ?_
            refine a_iconst (pc := 125) (v := (-1)) C dX8_tight_125 (by decide) ?_
            refine a_ixor (pc := 126) C dX8_tight_126 ?_
            refine a_iand (pc := 127) C dX8_tight_127 ?_
            refine a_jn 152 (fun a152 : Unit => [(0, .ref (ad 0)), (2, .int x2), (3, .int x3), (4, .int x4), (6, .int v5), (7, .int v7), (8, .int a54), (9, .int v9)]) (fun a152 : Unit => []) (fun a152 : Unit => M4) hf (fun a152 hf => ?_) (fun k152 hk152 hf => ?_)
            · refine a_iconst (pc := 152) (v := 1) C dX8_tight_152 (by decide) ?_
              refine a_goto (pc := 153) 157 C dX8_tight_153 (by decide) ?_
              exact a_sub [0, 1, 2, 3, 4, 5, 6, 7] rfl (hk157 (1 : Int32) hf)
            · refine a_if_eq (pc := 128) 152 C dX8_tight_128 (by decide) hf (fun hf => ?_) (fun hf => ?_)
              · exact a_sub [2, 3, 4, 5, 6, 7, 8, 1] rfl (hk152 () hf)
              · refine a_iload (pc := 131) C dX8_tight_131 1 rfl ?_
                refine a_iload (pc := 133) C dX8_tight_133 0 rfl ?_
                refine a_iload (pc := 135) C dX8_tight_135 6 rfl ?_
                refine a_iand (pc := 137) C dX8_tight_137 ?_
                refine a_iload (pc := 138) C dX8_tight_138 0 rfl ?_
                refine a_iconst (pc := 140) (v := (-1)) C dX8_tight_140 (by decide) ?_
                refine a_ixor (pc := 141) C dX8_tight_141 ?_
                refine a_iload (pc := 142) C dX8_tight_142 7 rfl ?_
                refine a_iand (pc := 144) C dX8_tight_144 ?_
                refine a_ior (pc := 145) C dX8_tight_145 ?_
                refine a_iconst (pc := 146) (v := (-1)) C dX8_tight_146 (by decide) ?_
                refine a_ixor (pc := 147) C dX8_tight_147 ?_
                refine a_iand (pc := 148) C dX8_tight_148 ?_
                refine a_if_ne (pc := 149) 156 C dX8_tight_149 (by decide) hf (fun hf => ?_) (fun hf => ?_)
                · refine a_iconst (pc := 156) (v := 0) C dX8_tight_156 (by decide) ?_
                  exact a_sub [2, 3, 4, 5, 6, 7, 8, 1] rfl (hk157 (0 : Int32) hf)
                · exact a_sub [2, 3, 4, 5, 6, 7, 8, 1] rfl (hk152 () hf)
          · refine a_iload (pc := 91) C dX8_tight_91 1 rfl ?_
            refine a_iload (pc := 93) C dX8_tight_93 6 rfl ?_
            refine a_iand (pc := 95) C dX8_tight_95 ?_
            refine a_iload (pc := 96) C dX8_tight_96 7 rfl ?_
            refine a_iand (pc := 98) C dX8_tight_98 ?_
            refine a_if_eq (pc := 99) 106 C dX8_tight_99 (by decide) hf (fun hf => ?_) (fun hf => ?_)
            · refine a_iconst (pc := 106) (v := 0) C dX8_tight_106 (by decide) ?_
              refine a_goto (pc := 107) 157 C dX8_tight_107 (by decide) ?_
              exact a_sub [2, 3, 4, 5, 6, 7, 8, 1] rfl (hk157 (0 : Int32) hf)
            · refine a_iconst (pc := 102) (v := 1) C dX8_tight_102 (by decide) ?_
              refine a_goto (pc := 103) 157 C dX8_tight_103 (by decide) ?_
              exact a_sub [2, 3, 4, 5, 6, 7, 8, 1] rfl (hk157 (1 : Int32) hf)
    · refine a_iload (pc := 30) C dX8_tight_30 0 rfl ?_
      exact a_iret (pc := 32) C dX8_tight_32 (so_1 hf) (so_2 hf)
  · refine a_if_eq (pc := 8) 21 C dX8_tight_8 (by decide) hf (fun hf => ?_) (fun hf => ?_)
    · refine a_bipush (pc := 21) (v := (-2)) C dX8_tight_21 (by decide) ?_
      exact a_sub [0, 2, 3, 4] rfl (hk23 ((-2 : Int32), M) hf)
    · refine a_aload_n (pc := 11) C dX8_tight_11 0 rfl ?_
      refine a_iload_n (pc := 12) C dX8_tight_12 1 rfl ?_
      refine a_iload_n (pc := 13) C dX8_tight_13 2 rfl ?_
      refine a_iload_n (pc := 14) C dX8_tight_14 3 rfl ?_
      refine a_callV_I (pc := 15) (d' := 5) C dX8_tight_15 ml_X8_255 mc_X8_wrongColouring mv_X8_wrongColouring tm_0 rfl [.int x1, .int x2, .int x3] rfl (Nat.le_of_ble_eq_true rfl) (Nat.le_of_ble_eq_true rfl) rfl (Nat.le_of_ble_eq_true rfl) (fun r M' h => c_X8_wrongColouring N x1 x2 x3  _  r M' h) hf (fun v16 M17 hf => ?_)
      refine a_goto (pc := 18) 23 C dX8_tight_18 (by decide) ?_
      exact a_sub [0, 2, 3, 4] rfl (hk23 (v16, M17) hf)
theorem dX8_rounds_0 : decode cX8_rounds 0 = .ok (.iload 4, 2) := by decide +kernel
theorem dX8_rounds_2 : decode cX8_rounds 2 = .ok (.invokestatic 245, 3) := by decide +kernel
theorem dX8_rounds_5 : decode cX8_rounds 5 = .ok (.ifCond .ne 6, 3) := by decide +kernel
theorem dX8_rounds_8 : decode cX8_rounds 8 = .ok (.bipush (-2), 2) := by decide +kernel
theorem dX8_rounds_10 : decode cX8_rounds 10 = .ok (.ireturn, 1) := by decide +kernel
theorem dX8_rounds_11 : decode cX8_rounds 11 = .ok (.aload_n 0, 1) := by decide +kernel
theorem dX8_rounds_12 : decode cX8_rounds 12 = .ok (.iload_n 1, 1) := by decide +kernel
theorem dX8_rounds_13 : decode cX8_rounds 13 = .ok (.iload_n 2, 1) := by decide +kernel
theorem dX8_rounds_14 : decode cX8_rounds 14 = .ok (.iload_n 3, 1) := by decide +kernel
theorem dX8_rounds_15 : decode cX8_rounds 15 = .ok (.invokevirtual 255, 3) := by decide +kernel
theorem dX8_rounds_18 : decode cX8_rounds 18 = .ok (.istore 5, 2) := by decide +kernel
theorem dX8_rounds_20 : decode cX8_rounds 20 = .ok (.iload 5, 2) := by decide +kernel
theorem dX8_rounds_22 : decode cX8_rounds 22 = .ok (.ifCond .eq 6, 3) := by decide +kernel
theorem dX8_rounds_25 : decode cX8_rounds 25 = .ok (.iload 5, 2) := by decide +kernel
theorem dX8_rounds_27 : decode cX8_rounds 27 = .ok (.ireturn, 1) := by decide +kernel
theorem dX8_rounds_28 : decode cX8_rounds 28 = .ok (.aload_n 0, 1) := by decide +kernel
theorem dX8_rounds_29 : decode cX8_rounds 29 = .ok (.iload 4, 2) := by decide +kernel
theorem dX8_rounds_31 : decode cX8_rounds 31 = .ok (.iload_n 3, 1) := by decide +kernel
theorem dX8_rounds_32 : decode cX8_rounds 32 = .ok (.invokevirtual 261, 3) := by decide +kernel
theorem dX8_rounds_35 : decode cX8_rounds 35 = .ok (.iload_n 2, 1) := by decide +kernel
theorem dX8_rounds_36 : decode cX8_rounds 36 = .ok (.iload_n 3, 1) := by decide +kernel
theorem dX8_rounds_37 : decode cX8_rounds 37 = .ok (.idiv, 1) := by decide +kernel
theorem dX8_rounds_38 : decode cX8_rounds 38 = .ok (.iload_n 2, 1) := by decide +kernel
theorem dX8_rounds_39 : decode cX8_rounds 39 = .ok (.iload_n 3, 1) := by decide +kernel
theorem dX8_rounds_40 : decode cX8_rounds 40 = .ok (.irem, 1) := by decide +kernel
theorem dX8_rounds_41 : decode cX8_rounds 41 = .ok (.ifCond .ne 7, 3) := by decide +kernel
theorem dX8_rounds_44 : decode cX8_rounds 44 = .ok (.iconst 0, 1) := by decide +kernel
theorem dX8_rounds_45 : decode cX8_rounds 45 = .ok (.goto 4, 3) := by decide +kernel
theorem dX8_rounds_48 : decode cX8_rounds 48 = .ok (.iconst 1, 1) := by decide +kernel
theorem dX8_rounds_49 : decode cX8_rounds 49 = .ok (.iadd, 1) := by decide +kernel
theorem dX8_rounds_50 : decode cX8_rounds 50 = .ok (.ireturn, 1) := by decide +kernel
def f_X8_rounds (N : Nat) (x1 : Int32) (x2 : Int32) (x3 : Int32) (x4 : Int32) (M : Mem) : Option (Int32 × Mem) := bd (f_X8_isSheet N x4 M) (fun v1 => if v1 = 0 then (some ((-2 : Int32), M)) else (bd (f_X8_wrongColouring N x1 x2 x3 M) (fun w5 => if w5.1 = 0 then (bd (f_X8_lays N x4 x3 w5.2) (fun M7 => ck (¬ x3 = 0) (ck (¬ x3 = 0) (if (x2 - x2 / x3 * x3) = 0 then (some (((x2 / x3) + (0 : Int32)), M7)) else (some (((x2 / x3) + (1 : Int32)), M7)))))) else (some (w5.1, w5.2)))))
set_option maxRecDepth 100000 in
set_option maxHeartbeats 4000000 in
theorem c_X8_rounds {l : Launch} {D : va_G} {ac : Nat → ClassId} {A : Nat → Prop} {ad : Nat → Nat} {rest : va_W} (N : Nat) (x1 : Int32) (x2 : Int32) (x3 : Int32) (x4 : Int32)  (M : Mem) (r0 : Int32) (M0 : Mem) (hf : f_X8_rounds N x1 x2 x3 x4 M = some (r0, M0)) : CtI l D ac A tabM ad rest yX8_rounds cX8_rounds 6 .int 6 [.ref (ad 0), .int x1, .int x2, .int x3, .int x4] M r0 M0 := by
  refine ct_ofI (own := RX8) (by decide +kernel) rfl (Nat.le_of_ble_eq_true rfl) ?_
  intro p e s m args below meth c C
  unfold f_X8_rounds at hf
  refine a_L (L' := [(0, .ref (ad 0)), (1, .int x1), (2, .int x2), (3, .int x3), (4, .int x4)]) rfl ?_
  refine a_iload (pc := 0) C dX8_rounds_0 4 rfl ?_
  refine a_callS_Ir (pc := 2) (d' := 2) C dX8_rounds_2 ml_X8_245 mc_X8_isSheet ms_X8_isSheet [.int x4] rfl (Nat.le_of_ble_eq_true rfl) (Nat.le_of_ble_eq_true rfl) rfl (Nat.le_of_ble_eq_true rfl) (fun r h => c_X8_isSheet N x4  _  r h) hf (fun v1 hf => ?_)
  refine a_if_ne (pc := 5) 11 C dX8_rounds_5 (by decide) hf (fun hf => ?_) (fun hf => ?_)
  · refine a_aload_n (pc := 11) C dX8_rounds_11 0 rfl ?_
    refine a_iload_n (pc := 12) C dX8_rounds_12 1 rfl ?_
    refine a_iload_n (pc := 13) C dX8_rounds_13 2 rfl ?_
    refine a_iload_n (pc := 14) C dX8_rounds_14 3 rfl ?_
    refine a_callV_I (pc := 15) (d' := 5) C dX8_rounds_15 ml_X8_255 mc_X8_wrongColouring mv_X8_wrongColouring tm_0 rfl [.int x1, .int x2, .int x3] rfl (Nat.le_of_ble_eq_true rfl) (Nat.le_of_ble_eq_true rfl) rfl (Nat.le_of_ble_eq_true rfl) (fun r M' h => c_X8_wrongColouring N x1 x2 x3  _  r M' h) hf (fun v3 M4 hf => ?_)
    refine a_istore (pc := 18) [(5, .int v3), (0, .ref (ad 0)), (1, .int x1), (2, .int x2), (3, .int x3), (4, .int x4)] C dX8_rounds_18 (by decide) rfl ?_
    refine a_iload (pc := 20) C dX8_rounds_20 0 rfl ?_
    refine a_if_eq (pc := 22) 28 C dX8_rounds_22 (by decide) hf (fun hf => ?_) (fun hf => ?_)
    · refine a_aload_n (pc := 28) C dX8_rounds_28 1 rfl ?_
      refine a_iload (pc := 29) C dX8_rounds_29 5 rfl ?_
      refine a_iload_n (pc := 31) C dX8_rounds_31 4 rfl ?_
      refine a_callV_V (pc := 32) (d' := 1) C dX8_rounds_32 ml_X8_261 mc_X8_lays mv_X8_lays tm_0 rfl [.int x4, .int x3] rfl (Nat.le_of_ble_eq_true rfl) (Nat.le_of_ble_eq_true rfl) rfl (Nat.le_of_ble_eq_true rfl) (fun M' h => c_X8_lays N x4 x3  _  M' h) hf (fun M7 hf => ?_)
      refine a_iload_n (pc := 35) C dX8_rounds_35 3 rfl ?_
      refine a_iload_n (pc := 36) C dX8_rounds_36 4 rfl ?_
      refine a_idiv (pc := 37) C dX8_rounds_37 hf (fun hf => ?_)
      refine a_iload_n (pc := 38) C dX8_rounds_38 3 rfl ?_
      refine a_iload_n (pc := 39) C dX8_rounds_39 4 rfl ?_
      refine a_irem (pc := 40) C dX8_rounds_40 hf (fun hf => ?_)
      refine a_if_ne (pc := 41) 48 C dX8_rounds_41 (by decide) hf (fun hf => ?_) (fun hf => ?_)
      · refine a_iconst (pc := 48) (v := 1) C dX8_rounds_48 (by decide) ?_
        refine a_iadd (pc := 49) C dX8_rounds_49 ?_
        exact a_iret (pc := 50) C dX8_rounds_50 (so_1 hf) (so_2 hf)
      · refine a_iconst (pc := 44) (v := 0) C dX8_rounds_44 (by decide) ?_
        refine a_goto (pc := 45) 49 C dX8_rounds_45 (by decide) ?_
        refine a_iadd (pc := 49) C dX8_rounds_49 ?_
        exact a_iret (pc := 50) C dX8_rounds_50 (so_1 hf) (so_2 hf)
    · refine a_iload (pc := 25) C dX8_rounds_25 0 rfl ?_
      exact a_iret (pc := 27) C dX8_rounds_27 (so_1 hf) (so_2 hf)
  · refine a_bipush (pc := 8) (v := (-2)) C dX8_rounds_8 (by decide) ?_
    exact a_iret (pc := 10) C dX8_rounds_10 (so_1 hf) (so_2 hf)
theorem dX8_item_0 : decode cX8_item 0 = .ok (.aload_n 0, 1) := by decide +kernel
theorem dX8_item_1 : decode cX8_item 1 = .ok (.bipush 112, 2) := by decide +kernel
theorem dX8_item_3 : decode cX8_item 3 = .ok (.bipush 111, 2) := by decide +kernel
theorem dX8_item_5 : decode cX8_item 5 = .ok (.bipush 105, 2) := by decide +kernel
theorem dX8_item_7 : decode cX8_item 7 = .ok (.bipush 110, 2) := by decide +kernel
theorem dX8_item_9 : decode cX8_item 9 = .ok (.bipush 116, 2) := by decide +kernel
theorem dX8_item_11 : decode cX8_item 11 = .ok (.bipush 115, 2) := by decide +kernel
theorem dX8_item_13 : decode cX8_item 13 = .ok (.invokevirtual 317, 3) := by decide +kernel
theorem dX8_item_16 : decode cX8_item 16 = .ok (.ifCond .eq 37, 3) := by decide +kernel
theorem dX8_item_19 : decode cX8_item 19 = .ok (.aload_n 0, 1) := by decide +kernel
theorem dX8_item_20 : decode cX8_item 20 = .ok (.invokevirtual 321, 3) := by decide +kernel
theorem dX8_item_23 : decode cX8_item 23 = .ok (.aload_n 0, 1) := by decide +kernel
theorem dX8_item_24 : decode cX8_item 24 = .ok (.iconst 0, 1) := by decide +kernel
theorem dX8_item_25 : decode cX8_item 25 = .ok (.iconst 1, 1) := by decide +kernel
theorem dX8_item_26 : decode cX8_item 26 = .ok (.bipush 6, 2) := by decide +kernel
theorem dX8_item_28 : decode cX8_item 28 = .ok (.aload_n 0, 1) := by decide +kernel
theorem dX8_item_29 : decode cX8_item 29 = .ok (.getfield 95, 3) := by decide +kernel
theorem dX8_item_32 : decode cX8_item 32 = .ok (.isub, 1) := by decide +kernel
theorem dX8_item_33 : decode cX8_item 33 = .ok (.invokevirtual 327, 3) := by decide +kernel
theorem dX8_item_36 : decode cX8_item 36 = .ok (.ifCond .ne 5, 3) := by decide +kernel
theorem dX8_item_39 : decode cX8_item 39 = .ok (.iconst 0, 1) := by decide +kernel
theorem dX8_item_40 : decode cX8_item 40 = .ok (.ireturn, 1) := by decide +kernel
theorem dX8_item_41 : decode cX8_item 41 = .ok (.aload_n 0, 1) := by decide +kernel
theorem dX8_item_42 : decode cX8_item 42 = .ok (.aload_n 0, 1) := by decide +kernel
theorem dX8_item_43 : decode cX8_item 43 = .ok (.getfield 74, 3) := by decide +kernel
theorem dX8_item_46 : decode cX8_item 46 = .ok (.iconst 0, 1) := by decide +kernel
theorem dX8_item_47 : decode cX8_item 47 = .ok (.iaload, 1) := by decide +kernel
theorem dX8_item_48 : decode cX8_item 48 = .ok (.invokevirtual 114, 3) := by decide +kernel
theorem dX8_item_51 : decode cX8_item 51 = .ok (.iconst 1, 1) := by decide +kernel
theorem dX8_item_52 : decode cX8_item 52 = .ok (.ireturn, 1) := by decide +kernel
theorem dX8_item_53 : decode cX8_item 53 = .ok (.aload_n 0, 1) := by decide +kernel
theorem dX8_item_54 : decode cX8_item 54 = .ok (.bipush 108, 2) := by decide +kernel
theorem dX8_item_56 : decode cX8_item 56 = .ok (.bipush 105, 2) := by decide +kernel
theorem dX8_item_58 : decode cX8_item 58 = .ok (.bipush 110, 2) := by decide +kernel
theorem dX8_item_60 : decode cX8_item 60 = .ok (.bipush 101, 2) := by decide +kernel
theorem dX8_item_62 : decode cX8_item 62 = .ok (.iconst 0, 1) := by decide +kernel
theorem dX8_item_63 : decode cX8_item 63 = .ok (.iconst 0, 1) := by decide +kernel
theorem dX8_item_64 : decode cX8_item 64 = .ok (.invokevirtual 317, 3) := by decide +kernel
theorem dX8_item_67 : decode cX8_item 67 = .ok (.ifCond .eq 26, 3) := by decide +kernel
theorem dX8_item_70 : decode cX8_item 70 = .ok (.aload_n 0, 1) := by decide +kernel
theorem dX8_item_71 : decode cX8_item 71 = .ok (.getfield 102, 3) := by decide +kernel
theorem dX8_item_74 : decode cX8_item 74 = .ok (.bipush 10, 2) := by decide +kernel
theorem dX8_item_76 : decode cX8_item 76 = .ok (.if_icmp .ge 15, 3) := by decide +kernel
theorem dX8_item_79 : decode cX8_item 79 = .ok (.aload_n 0, 1) := by decide +kernel
theorem dX8_item_80 : decode cX8_item 80 = .ok (.iconst 0, 1) := by decide +kernel
theorem dX8_item_81 : decode cX8_item 81 = .ok (.invokevirtual 330, 3) := by decide +kernel
theorem dX8_item_84 : decode cX8_item 84 = .ok (.ifCond .eq 7, 3) := by decide +kernel
theorem dX8_item_87 : decode cX8_item 87 = .ok (.iconst 1, 1) := by decide +kernel
theorem dX8_item_88 : decode cX8_item 88 = .ok (.goto 4, 3) := by decide +kernel
theorem dX8_item_91 : decode cX8_item 91 = .ok (.iconst 0, 1) := by decide +kernel
theorem dX8_item_92 : decode cX8_item 92 = .ok (.ireturn, 1) := by decide +kernel
theorem dX8_item_93 : decode cX8_item 93 = .ok (.aload_n 0, 1) := by decide +kernel
theorem dX8_item_94 : decode cX8_item 94 = .ok (.bipush 114, 2) := by decide +kernel
theorem dX8_item_96 : decode cX8_item 96 = .ok (.bipush 111, 2) := by decide +kernel
theorem dX8_item_98 : decode cX8_item 98 = .ok (.bipush 117, 2) := by decide +kernel
theorem dX8_item_100 : decode cX8_item 100 = .ok (.bipush 110, 2) := by decide +kernel
theorem dX8_item_102 : decode cX8_item 102 = .ok (.bipush 100, 2) := by decide +kernel
theorem dX8_item_104 : decode cX8_item 104 = .ok (.iconst 0, 1) := by decide +kernel
theorem dX8_item_105 : decode cX8_item 105 = .ok (.invokevirtual 317, 3) := by decide +kernel
theorem dX8_item_108 : decode cX8_item 108 = .ok (.ifCond .eq 9, 3) := by decide +kernel
theorem dX8_item_111 : decode cX8_item 111 = .ok (.aload_n 0, 1) := by decide +kernel
theorem dX8_item_112 : decode cX8_item 112 = .ok (.iconst 1, 1) := by decide +kernel
theorem dX8_item_113 : decode cX8_item 113 = .ok (.invokevirtual 330, 3) := by decide +kernel
theorem dX8_item_116 : decode cX8_item 116 = .ok (.ireturn, 1) := by decide +kernel
theorem dX8_item_117 : decode cX8_item 117 = .ok (.aload_n 0, 1) := by decide +kernel
theorem dX8_item_118 : decode cX8_item 118 = .ok (.bipush 108, 2) := by decide +kernel
theorem dX8_item_120 : decode cX8_item 120 = .ok (.bipush 105, 2) := by decide +kernel
theorem dX8_item_122 : decode cX8_item 122 = .ok (.bipush 115, 2) := by decide +kernel
theorem dX8_item_124 : decode cX8_item 124 = .ok (.bipush 116, 2) := by decide +kernel
theorem dX8_item_126 : decode cX8_item 126 = .ok (.iconst 0, 1) := by decide +kernel
theorem dX8_item_127 : decode cX8_item 127 = .ok (.iconst 0, 1) := by decide +kernel
theorem dX8_item_128 : decode cX8_item 128 = .ok (.invokevirtual 317, 3) := by decide +kernel
theorem dX8_item_131 : decode cX8_item 131 = .ok (.ifCond .ne 5, 3) := by decide +kernel
theorem dX8_item_134 : decode cX8_item 134 = .ok (.iconst 0, 1) := by decide +kernel
theorem dX8_item_135 : decode cX8_item 135 = .ok (.ireturn, 1) := by decide +kernel
theorem dX8_item_136 : decode cX8_item 136 = .ok (.aload_n 0, 1) := by decide +kernel
theorem dX8_item_137 : decode cX8_item 137 = .ok (.invokevirtual 321, 3) := by decide +kernel
theorem dX8_item_140 : decode cX8_item 140 = .ok (.aload_n 0, 1) := by decide +kernel
theorem dX8_item_141 : decode cX8_item 141 = .ok (.iconst 0, 1) := by decide +kernel
theorem dX8_item_142 : decode cX8_item 142 = .ok (.iconst 0, 1) := by decide +kernel
theorem dX8_item_143 : decode cX8_item 143 = .ok (.aload_n 0, 1) := by decide +kernel
theorem dX8_item_144 : decode cX8_item 144 = .ok (.getfield 95, 3) := by decide +kernel
theorem dX8_item_147 : decode cX8_item 147 = .ok (.iconst 1, 1) := by decide +kernel
theorem dX8_item_148 : decode cX8_item 148 = .ok (.isub, 1) := by decide +kernel
theorem dX8_item_149 : decode cX8_item 149 = .ok (.invokevirtual 327, 3) := by decide +kernel
theorem dX8_item_152 : decode cX8_item 152 = .ok (.ifCond .eq 30, 3) := by decide +kernel
theorem dX8_item_155 : decode cX8_item 155 = .ok (.aload_n 0, 1) := by decide +kernel
theorem dX8_item_156 : decode cX8_item 156 = .ok (.iconst 1, 1) := by decide +kernel
theorem dX8_item_157 : decode cX8_item 157 = .ok (.iconst 0, 1) := by decide +kernel
theorem dX8_item_158 : decode cX8_item 158 = .ok (.bipush 39, 2) := by decide +kernel
theorem dX8_item_160 : decode cX8_item 160 = .ok (.invokevirtual 327, 3) := by decide +kernel
theorem dX8_item_163 : decode cX8_item 163 = .ok (.ifCond .eq 19, 3) := by decide +kernel
theorem dX8_item_166 : decode cX8_item 166 = .ok (.aload_n 0, 1) := by decide +kernel
theorem dX8_item_167 : decode cX8_item 167 = .ok (.iconst 2, 1) := by decide +kernel
theorem dX8_item_168 : decode cX8_item 168 = .ok (.aload_n 0, 1) := by decide +kernel
theorem dX8_item_169 : decode cX8_item 169 = .ok (.getfield 74, 3) := by decide +kernel
theorem dX8_item_172 : decode cX8_item 172 = .ok (.iconst 1, 1) := by decide +kernel
theorem dX8_item_173 : decode cX8_item 173 = .ok (.iaload, 1) := by decide +kernel
theorem dX8_item_174 : decode cX8_item 174 = .ok (.bipush 39, 2) := by decide +kernel
theorem dX8_item_176 : decode cX8_item 176 = .ok (.invokevirtual 327, 3) := by decide +kernel
theorem dX8_item_179 : decode cX8_item 179 = .ok (.ifCond .ne 5, 3) := by decide +kernel
theorem dX8_item_182 : decode cX8_item 182 = .ok (.iconst 0, 1) := by decide +kernel
theorem dX8_item_183 : decode cX8_item 183 = .ok (.ireturn, 1) := by decide +kernel
theorem dX8_item_184 : decode cX8_item 184 = .ok (.aload_n 0, 1) := by decide +kernel
theorem dX8_item_185 : decode cX8_item 185 = .ok (.getfield 28, 3) := by decide +kernel
theorem dX8_item_188 : decode cX8_item 188 = .ok (.aload_n 0, 1) := by decide +kernel
theorem dX8_item_189 : decode cX8_item 189 = .ok (.getfield 74, 3) := by decide +kernel
theorem dX8_item_192 : decode cX8_item 192 = .ok (.iconst 0, 1) := by decide +kernel
theorem dX8_item_193 : decode cX8_item 193 = .ok (.iaload, 1) := by decide +kernel
theorem dX8_item_194 : decode cX8_item 194 = .ok (.lconst 1, 1) := by decide +kernel
theorem dX8_item_195 : decode cX8_item 195 = .ok (.aload_n 0, 1) := by decide +kernel
theorem dX8_item_196 : decode cX8_item 196 = .ok (.getfield 74, 3) := by decide +kernel
theorem dX8_item_199 : decode cX8_item 199 = .ok (.iconst 2, 1) := by decide +kernel
theorem dX8_item_200 : decode cX8_item 200 = .ok (.iaload, 1) := by decide +kernel
theorem dX8_item_201 : decode cX8_item 201 = .ok (.iconst 1, 1) := by decide +kernel
theorem dX8_item_202 : decode cX8_item 202 = .ok (.iadd, 1) := by decide +kernel
theorem dX8_item_203 : decode cX8_item 203 = .ok (.lshl, 1) := by decide +kernel
theorem dX8_item_204 : decode cX8_item 204 = .ok (.lconst 1, 1) := by decide +kernel
theorem dX8_item_205 : decode cX8_item 205 = .ok (.aload_n 0, 1) := by decide +kernel
theorem dX8_item_206 : decode cX8_item 206 = .ok (.getfield 74, 3) := by decide +kernel
theorem dX8_item_209 : decode cX8_item 209 = .ok (.iconst 1, 1) := by decide +kernel
theorem dX8_item_210 : decode cX8_item 210 = .ok (.iaload, 1) := by decide +kernel
theorem dX8_item_211 : decode cX8_item 211 = .ok (.lshl, 1) := by decide +kernel
theorem dX8_item_212 : decode cX8_item 212 = .ok (.lsub, 1) := by decide +kernel
theorem dX8_item_213 : decode cX8_item 213 = .ok (.lastore, 1) := by decide +kernel
theorem dX8_item_214 : decode cX8_item 214 = .ok (.iconst 1, 1) := by decide +kernel
theorem dX8_item_215 : decode cX8_item 215 = .ok (.ireturn, 1) := by decide +kernel
def f_X8_item (N : Nat)  (M : Mem) : Option (Int32 × Mem) := bd (f_X8_isWord N (112 : Int32) (111 : Int32) (105 : Int32) (110 : Int32) (116 : Int32) (115 : Int32) M) (fun v1 => if v1 = 0 then (bd (f_X8_isWord N (108 : Int32) (105 : Int32) (110 : Int32) (101 : Int32) (0 : Int32) (0 : Int32) M) (fun v3 => if v3 = 0 then (bd (f_X8_isWord N (114 : Int32) (111 : Int32) (117 : Int32) (110 : Int32) (100 : Int32) (0 : Int32) M) (fun v5 => if v5 = 0 then (bd (f_X8_isWord N (108 : Int32) (105 : Int32) (115 : Int32) (116 : Int32) (0 : Int32) (0 : Int32) M) (fun v7 => if v7 = 0 then (some ((0 : Int32), M)) else (bd (f_X8_goes N  M) (fun M10 => bd (f_X8_isRead N (0 : Int32) (0 : Int32) ((M10.1 0 0) - (1 : Int32)) M10) (fun w13 => if w13.1 = 0 then (some ((0 : Int32), w13.2)) else (bd (f_X8_isRead N (1 : Int32) (0 : Int32) (39 : Int32) w13.2) (fun w16 => if w16.1 = 0 then (some ((0 : Int32), w16.2)) else (ck (inb (1 : Int32) 4) (bd (f_X8_isRead N (2 : Int32) (w16.2.1 19 (1 : Int32).toNatClampNeg) (39 : Int32) w16.2) (fun w19 => if w19.1 = 0 then (some ((0 : Int32), w19.2)) else (ck (inb (0 : Int32) 4) (ck (inb (2 : Int32) 4) (ck (inb (1 : Int32) 4) (ck (inb (w19.2.1 19 (0 : Int32).toNatClampNeg) 6) (nm (setJ w19.2 5 (w19.2.1 19 (0 : Int32).toNatClampNeg).toNatClampNeg (((1 : Int64) <<< (((w19.2.1 19 (2 : Int32).toNatClampNeg) + (1 : Int32)).toInt64 &&& 63)) - ((1 : Int64) <<< ((w19.2.1 19 (1 : Int32).toNatClampNeg).toInt64 &&& 63)))) (fun M20 => some ((1 : Int32), M20))))))))))))))))) else (bd (f_X8_ofLines N (1 : Int32) M) (fun w23 => ck (w23.1 = 0 ∨ w23.1 = 1) (some (w23.1, w23.2)))))) else (jn (fun (a91 : Mem) => some ((0 : Int32), a91)) (fun (k91 : Mem → Option (Int32 × Mem)) => if (10 : Int32) ≤ (M.1 0 1) then (k91 M) else (bd (f_X8_ofLines N (0 : Int32) M) (fun w26 => if w26.1 = 0 then (k91 w26.2) else (some ((1 : Int32), w26.2)))))))) else (bd (f_X8_goes N  M) (fun M28 => bd (f_X8_isRead N (0 : Int32) (1 : Int32) ((6 : Int32) - (M28.1 0 0)) M28) (fun w31 => if w31.1 = 0 then (some ((0 : Int32), w31.2)) else (ck (inb (0 : Int32) 4) (bd (f_X8_pointsCome N (w31.2.1 19 (0 : Int32).toNatClampNeg) w31.2) (fun M33 => some ((1 : Int32), M33))))))))
set_option maxRecDepth 100000 in
set_option maxHeartbeats 4000000 in
theorem c_X8_item {l : Launch} {D : va_G} {ac : Nat → ClassId} {A : Nat → Prop} {ad : Nat → Nat} {rest : va_W} (N : Nat)   (M : Mem) (r0 : Int32) (M0 : Mem) (hf : f_X8_item N  M = some (r0, M0)) : CtI l D ac A tabM ad rest yX8_item cX8_item 1 .boolean 6 [.ref (ad 0)] M r0 M0 := by
  refine ct_ofI (own := RX8) (by decide +kernel) rfl (Nat.le_of_ble_eq_true rfl) ?_
  intro p e s m args below meth c C
  unfold f_X8_item at hf
  refine a_L (L' := [(0, .ref (ad 0))]) rfl ?_
  refine a_aload_n (pc := 0) C dX8_item_0 0 rfl ?_
  refine a_bipush (pc := 1) (v := 112) C dX8_item_1 (by decide) ?_
  refine a_bipush (pc := 3) (v := 111) C dX8_item_3 (by decide) ?_
  refine a_bipush (pc := 5) (v := 105) C dX8_item_5 (by decide) ?_
  refine a_bipush (pc := 7) (v := 110) C dX8_item_7 (by decide) ?_
  refine a_bipush (pc := 9) (v := 116) C dX8_item_9 (by decide) ?_
  refine a_bipush (pc := 11) (v := 115) C dX8_item_11 (by decide) ?_
  refine a_callV_Ir (pc := 13) (d' := 1) C dX8_item_13 ml_X8_317 mc_X8_isWord mv_X8_isWord tm_0 rfl [.int (112 : Int32), .int (111 : Int32), .int (105 : Int32), .int (110 : Int32), .int (116 : Int32), .int (115 : Int32)] rfl (Nat.le_of_ble_eq_true rfl) (Nat.le_of_ble_eq_true rfl) rfl (Nat.le_of_ble_eq_true rfl) (fun r h => c_X8_isWord N (112 : Int32) (111 : Int32) (105 : Int32) (110 : Int32) (116 : Int32) (115 : Int32)  _  r h) hf (fun v1 hf => ?_)
  refine a_if_eq (pc := 16) 53 C dX8_item_16 (by decide) hf (fun hf => ?_) (fun hf => ?_)
  · refine a_aload_n (pc := 53) C dX8_item_53 0 rfl ?_
    refine a_bipush (pc := 54) (v := 108) C dX8_item_54 (by decide) ?_
    refine a_bipush (pc := 56) (v := 105) C dX8_item_56 (by decide) ?_
    refine a_bipush (pc := 58) (v := 110) C dX8_item_58 (by decide) ?_
    refine a_bipush (pc := 60) (v := 101) C dX8_item_60 (by decide) ?_
    refine a_iconst (pc := 62) (v := 0) C dX8_item_62 (by decide) ?_
    refine a_iconst (pc := 63) (v := 0) C dX8_item_63 (by decide) ?_
    refine a_callV_Ir (pc := 64) (d' := 1) C dX8_item_64 ml_X8_317 mc_X8_isWord mv_X8_isWord tm_0 rfl [.int (108 : Int32), .int (105 : Int32), .int (110 : Int32), .int (101 : Int32), .int (0 : Int32), .int (0 : Int32)] rfl (Nat.le_of_ble_eq_true rfl) (Nat.le_of_ble_eq_true rfl) rfl (Nat.le_of_ble_eq_true rfl) (fun r h => c_X8_isWord N (108 : Int32) (105 : Int32) (110 : Int32) (101 : Int32) (0 : Int32) (0 : Int32)  _  r h) hf (fun v3 hf => ?_)
    refine a_if_eq (pc := 67) 93 C dX8_item_67 (by decide) hf (fun hf => ?_) (fun hf => ?_)
    · refine a_aload_n (pc := 93) C dX8_item_93 0 rfl ?_
      refine a_bipush (pc := 94) (v := 114) C dX8_item_94 (by decide) ?_
      refine a_bipush (pc := 96) (v := 111) C dX8_item_96 (by decide) ?_
      refine a_bipush (pc := 98) (v := 117) C dX8_item_98 (by decide) ?_
      refine a_bipush (pc := 100) (v := 110) C dX8_item_100 (by decide) ?_
      refine a_bipush (pc := 102) (v := 100) C dX8_item_102 (by decide) ?_
      refine a_iconst (pc := 104) (v := 0) C dX8_item_104 (by decide) ?_
      refine a_callV_Ir (pc := 105) (d' := 1) C dX8_item_105 ml_X8_317 mc_X8_isWord mv_X8_isWord tm_0 rfl [.int (114 : Int32), .int (111 : Int32), .int (117 : Int32), .int (110 : Int32), .int (100 : Int32), .int (0 : Int32)] rfl (Nat.le_of_ble_eq_true rfl) (Nat.le_of_ble_eq_true rfl) rfl (Nat.le_of_ble_eq_true rfl) (fun r h => c_X8_isWord N (114 : Int32) (111 : Int32) (117 : Int32) (110 : Int32) (100 : Int32) (0 : Int32)  _  r h) hf (fun v5 hf => ?_)
      refine a_if_eq (pc := 108) 117 C dX8_item_108 (by decide) hf (fun hf => ?_) (fun hf => ?_)
      · refine a_aload_n (pc := 117) C dX8_item_117 0 rfl ?_
        refine a_bipush (pc := 118) (v := 108) C dX8_item_118 (by decide) ?_
        refine a_bipush (pc := 120) (v := 105) C dX8_item_120 (by decide) ?_
        refine a_bipush (pc := 122) (v := 115) C dX8_item_122 (by decide) ?_
        refine a_bipush (pc := 124) (v := 116) C dX8_item_124 (by decide) ?_
        refine a_iconst (pc := 126) (v := 0) C dX8_item_126 (by decide) ?_
        refine a_iconst (pc := 127) (v := 0) C dX8_item_127 (by decide) ?_
        refine a_callV_Ir (pc := 128) (d' := 1) C dX8_item_128 ml_X8_317 mc_X8_isWord mv_X8_isWord tm_0 rfl [.int (108 : Int32), .int (105 : Int32), .int (115 : Int32), .int (116 : Int32), .int (0 : Int32), .int (0 : Int32)] rfl (Nat.le_of_ble_eq_true rfl) (Nat.le_of_ble_eq_true rfl) rfl (Nat.le_of_ble_eq_true rfl) (fun r h => c_X8_isWord N (108 : Int32) (105 : Int32) (115 : Int32) (116 : Int32) (0 : Int32) (0 : Int32)  _  r h) hf (fun v7 hf => ?_)
        refine a_if_ne (pc := 131) 136 C dX8_item_131 (by decide) hf (fun hf => ?_) (fun hf => ?_)
        · refine a_aload_n (pc := 136) C dX8_item_136 0 rfl ?_
          refine a_callV_V (pc := 137) (d' := 3) C dX8_item_137 ml_X8_321 mc_X8_goes mv_X8_goes tm_0 rfl [] rfl (Nat.le_of_ble_eq_true rfl) (Nat.le_of_ble_eq_true rfl) rfl (Nat.le_of_ble_eq_true rfl) (fun M' h => c_X8_goes N   _  M' h) hf (fun M10 hf => ?_)
          refine a_aload_n (pc := 140) C dX8_item_140 0 rfl ?_
          refine a_iconst (pc := 141) (v := 0) C dX8_item_141 (by decide) ?_
          refine a_iconst (pc := 142) (v := 0) C dX8_item_142 (by decide) ?_
          refine a_aload_n (pc := 143) C dX8_item_143 0 rfl ?_
          refine a_getI (pc := 144) C dX8_item_144 fl_X8_95 tm_0 rfl ?_
          refine a_iconst (pc := 147) (v := 1) C dX8_item_147 (by decide) ?_
          refine a_isub (pc := 148) C dX8_item_148 ?_
          refine a_callV_I (pc := 149) (d' := 4) C dX8_item_149 ml_X8_327 mc_X8_isRead mv_X8_isRead tm_0 rfl [.int (0 : Int32), .int (0 : Int32), .int ((M10.1 0 0) - (1 : Int32))] rfl (Nat.le_of_ble_eq_true rfl) (Nat.le_of_ble_eq_true rfl) rfl (Nat.le_of_ble_eq_true rfl) (fun r M' h => c_X8_isRead N (0 : Int32) (0 : Int32) ((M10.1 0 0) - (1 : Int32))  _  r M' h) hf (fun v11 M12 hf => ?_)
          refine a_if_eq (pc := 152) 182 C dX8_item_152 (by decide) hf (fun hf => ?_) (fun hf => ?_)
          · refine a_iconst (pc := 182) (v := 0) C dX8_item_182 (by decide) ?_
            exact a_zret (pc := 183) C dX8_item_183 (Or.inl rfl) (so_1 hf) (so_2 hf)
          · refine a_aload_n (pc := 155) C dX8_item_155 0 rfl ?_
            refine a_iconst (pc := 156) (v := 1) C dX8_item_156 (by decide) ?_
            refine a_iconst (pc := 157) (v := 0) C dX8_item_157 (by decide) ?_
            refine a_bipush (pc := 158) (v := 39) C dX8_item_158 (by decide) ?_
            refine a_callV_I (pc := 160) (d' := 4) C dX8_item_160 ml_X8_327 mc_X8_isRead mv_X8_isRead tm_0 rfl [.int (1 : Int32), .int (0 : Int32), .int (39 : Int32)] rfl (Nat.le_of_ble_eq_true rfl) (Nat.le_of_ble_eq_true rfl) rfl (Nat.le_of_ble_eq_true rfl) (fun r M' h => c_X8_isRead N (1 : Int32) (0 : Int32) (39 : Int32)  _  r M' h) hf (fun v14 M15 hf => ?_)
            refine a_if_eq (pc := 163) 182 C dX8_item_163 (by decide) hf (fun hf => ?_) (fun hf => ?_)
            · refine a_iconst (pc := 182) (v := 0) C dX8_item_182 (by decide) ?_
              exact a_zret (pc := 183) C dX8_item_183 (Or.inl rfl) (so_1 hf) (so_2 hf)
            · refine a_aload_n (pc := 166) C dX8_item_166 0 rfl ?_
              refine a_iconst (pc := 167) (v := 2) C dX8_item_167 (by decide) ?_
              refine a_aload_n (pc := 168) C dX8_item_168 0 rfl ?_
              refine a_getR (pc := 169) C dX8_item_169 fl_X8_74 tm_0 rfl ?_
              refine a_iconst (pc := 172) (v := 1) C dX8_item_172 (by decide) ?_
              refine a_iald (pc := 173) C dX8_item_173 tm_19 hf (fun hf => ?_)
              refine a_bipush (pc := 174) (v := 39) C dX8_item_174 (by decide) ?_
              refine a_callV_I (pc := 176) (d' := 4) C dX8_item_176 ml_X8_327 mc_X8_isRead mv_X8_isRead tm_0 rfl [.int (2 : Int32), .int (M15.1 19 (1 : Int32).toNatClampNeg), .int (39 : Int32)] rfl (Nat.le_of_ble_eq_true rfl) (Nat.le_of_ble_eq_true rfl) rfl (Nat.le_of_ble_eq_true rfl) (fun r M' h => c_X8_isRead N (2 : Int32) (M15.1 19 (1 : Int32).toNatClampNeg) (39 : Int32)  _  r M' h) hf (fun v17 M18 hf => ?_)
              refine a_if_ne (pc := 179) 184 C dX8_item_179 (by decide) hf (fun hf => ?_) (fun hf => ?_)
              · refine a_aload_n (pc := 184) C dX8_item_184 0 rfl ?_
                refine a_getR (pc := 185) C dX8_item_185 fl_X8_28 tm_0 rfl ?_
                refine a_aload_n (pc := 188) C dX8_item_188 0 rfl ?_
                refine a_getR (pc := 189) C dX8_item_189 fl_X8_74 tm_0 rfl ?_
                refine a_iconst (pc := 192) (v := 0) C dX8_item_192 (by decide) ?_
                refine a_iald (pc := 193) C dX8_item_193 tm_19 hf (fun hf => ?_)
                refine a_lconst (pc := 194) (v := 1) C dX8_item_194 (by decide) ?_
                refine a_aload_n (pc := 195) C dX8_item_195 0 rfl ?_
                refine a_getR (pc := 196) C dX8_item_196 fl_X8_74 tm_0 rfl ?_
                refine a_iconst (pc := 199) (v := 2) C dX8_item_199 (by decide) ?_
                refine a_iald (pc := 200) C dX8_item_200 tm_19 hf (fun hf => ?_)
                refine a_iconst (pc := 201) (v := 1) C dX8_item_201 (by decide) ?_
                refine a_iadd (pc := 202) C dX8_item_202 ?_
                refine a_lshl (pc := 203) C dX8_item_203 ?_
                refine a_lconst (pc := 204) (v := 1) C dX8_item_204 (by decide) ?_
                refine a_aload_n (pc := 205) C dX8_item_205 0 rfl ?_
                refine a_getR (pc := 206) C dX8_item_206 fl_X8_74 tm_0 rfl ?_
                refine a_iconst (pc := 209) (v := 1) C dX8_item_209 (by decide) ?_
                refine a_iald (pc := 210) C dX8_item_210 tm_19 hf (fun hf => ?_)
                refine a_lshl (pc := 211) C dX8_item_211 ?_
                refine a_lsub (pc := 212) C dX8_item_212 ?_
                refine a_last (pc := 213) C dX8_item_213 tm_5 hf (fun M20 hf => ?_)
                refine a_iconst (pc := 214) (v := 1) C dX8_item_214 (by decide) ?_
                exact a_zret (pc := 215) C dX8_item_215 (Or.inr rfl) (so_1 hf) (so_2 hf)
              · refine a_iconst (pc := 182) (v := 0) C dX8_item_182 (by decide) ?_
                exact a_zret (pc := 183) C dX8_item_183 (Or.inl rfl) (so_1 hf) (so_2 hf)
        · refine a_iconst (pc := 134) (v := 0) C dX8_item_134 (by decide) ?_
          exact a_zret (pc := 135) C dX8_item_135 (Or.inl rfl) (so_1 hf) (so_2 hf)
      · refine a_aload_n (pc := 111) C dX8_item_111 0 rfl ?_
        refine a_iconst (pc := 112) (v := 1) C dX8_item_112 (by decide) ?_
        refine a_callV_I (pc := 113) (d' := 5) C dX8_item_113 ml_X8_330 mc_X8_ofLines mv_X8_ofLines tm_0 rfl [.int (1 : Int32)] rfl (Nat.le_of_ble_eq_true rfl) (Nat.le_of_ble_eq_true rfl) rfl (Nat.le_of_ble_eq_true rfl) (fun r M' h => c_X8_ofLines N (1 : Int32)  _  r M' h) hf (fun v21 M22 hf => ?_)
        exact a_zret (pc := 116) C dX8_item_116 (ck_some hf).1 (so_1 (ck_some hf).2) (so_2 (ck_some hf).2)
    · refine a_aload_n (pc := 70) C dX8_item_70 0 rfl ?_
      refine a_getI (pc := 71) C dX8_item_71 fl_X8_102 tm_0 rfl ?_
      refine a_bipush (pc := 74) (v := 10) C dX8_item_74 (by decide) ?_
      refine a_jn 91 (fun a91 : Mem => []) (fun a91 : Mem => []) (fun a91 : Mem => a91) hf (fun a91 hf => ?_) (fun k91 hk91 hf => ?_)
      · refine a_iconst (pc := 91) (v := 0) C dX8_item_91 (by decide) ?_
        exact a_zret (pc := 92) C dX8_item_92 (Or.inl rfl) (so_1 hf) (so_2 hf)
      · refine a_icmp_ge (pc := 76) 91 C dX8_item_76 (by decide) hf (fun hf => ?_) (fun hf => ?_)
        · exact a_sub [] rfl (hk91 M hf)
        · refine a_aload_n (pc := 79) C dX8_item_79 0 rfl ?_
          refine a_iconst (pc := 80) (v := 0) C dX8_item_80 (by decide) ?_
          refine a_callV_I (pc := 81) (d' := 5) C dX8_item_81 ml_X8_330 mc_X8_ofLines mv_X8_ofLines tm_0 rfl [.int (0 : Int32)] rfl (Nat.le_of_ble_eq_true rfl) (Nat.le_of_ble_eq_true rfl) rfl (Nat.le_of_ble_eq_true rfl) (fun r M' h => c_X8_ofLines N (0 : Int32)  _  r M' h) hf (fun v24 M25 hf => ?_)
          refine a_if_eq (pc := 84) 91 C dX8_item_84 (by decide) hf (fun hf => ?_) (fun hf => ?_)
          · exact a_sub [] rfl (hk91 M25 hf)
          · refine a_iconst (pc := 87) (v := 1) C dX8_item_87 (by decide) ?_
            refine a_goto (pc := 88) 92 C dX8_item_88 (by decide) ?_
            exact a_zret (pc := 92) C dX8_item_92 (Or.inr rfl) (so_1 hf) (so_2 hf)
  · refine a_aload_n (pc := 19) C dX8_item_19 0 rfl ?_
    refine a_callV_V (pc := 20) (d' := 3) C dX8_item_20 ml_X8_321 mc_X8_goes mv_X8_goes tm_0 rfl [] rfl (Nat.le_of_ble_eq_true rfl) (Nat.le_of_ble_eq_true rfl) rfl (Nat.le_of_ble_eq_true rfl) (fun M' h => c_X8_goes N   _  M' h) hf (fun M28 hf => ?_)
    refine a_aload_n (pc := 23) C dX8_item_23 0 rfl ?_
    refine a_iconst (pc := 24) (v := 0) C dX8_item_24 (by decide) ?_
    refine a_iconst (pc := 25) (v := 1) C dX8_item_25 (by decide) ?_
    refine a_bipush (pc := 26) (v := 6) C dX8_item_26 (by decide) ?_
    refine a_aload_n (pc := 28) C dX8_item_28 0 rfl ?_
    refine a_getI (pc := 29) C dX8_item_29 fl_X8_95 tm_0 rfl ?_
    refine a_isub (pc := 32) C dX8_item_32 ?_
    refine a_callV_I (pc := 33) (d' := 4) C dX8_item_33 ml_X8_327 mc_X8_isRead mv_X8_isRead tm_0 rfl [.int (0 : Int32), .int (1 : Int32), .int ((6 : Int32) - (M28.1 0 0))] rfl (Nat.le_of_ble_eq_true rfl) (Nat.le_of_ble_eq_true rfl) rfl (Nat.le_of_ble_eq_true rfl) (fun r M' h => c_X8_isRead N (0 : Int32) (1 : Int32) ((6 : Int32) - (M28.1 0 0))  _  r M' h) hf (fun v29 M30 hf => ?_)
    refine a_if_ne (pc := 36) 41 C dX8_item_36 (by decide) hf (fun hf => ?_) (fun hf => ?_)
    · refine a_aload_n (pc := 41) C dX8_item_41 0 rfl ?_
      refine a_aload_n (pc := 42) C dX8_item_42 0 rfl ?_
      refine a_getR (pc := 43) C dX8_item_43 fl_X8_74 tm_0 rfl ?_
      refine a_iconst (pc := 46) (v := 0) C dX8_item_46 (by decide) ?_
      refine a_iald (pc := 47) C dX8_item_47 tm_19 hf (fun hf => ?_)
      refine a_callV_V (pc := 48) (d' := 1) C dX8_item_48 ml_X8_114 mc_X8_pointsCome mv_X8_pointsCome tm_0 rfl [.int (M30.1 19 (0 : Int32).toNatClampNeg)] rfl (Nat.le_of_ble_eq_true rfl) (Nat.le_of_ble_eq_true rfl) rfl (Nat.le_of_ble_eq_true rfl) (fun M' h => c_X8_pointsCome N (M30.1 19 (0 : Int32).toNatClampNeg)  _  M' h) hf (fun M33 hf => ?_)
      refine a_iconst (pc := 51) (v := 1) C dX8_item_51 (by decide) ?_
      exact a_zret (pc := 52) C dX8_item_52 (Or.inr rfl) (so_1 hf) (so_2 hf)
    · refine a_iconst (pc := 39) (v := 0) C dX8_item_39 (by decide) ?_
      exact a_zret (pc := 40) C dX8_item_40 (Or.inl rfl) (so_1 hf) (so_2 hf)
theorem dX6_readKind_0 : decode cX6_readKind 0 = .ok (.aload_n 0, 1) := by decide +kernel
theorem dX6_readKind_1 : decode cX6_readKind 1 = .ok (.invokevirtual 22, 3) := by decide +kernel
theorem dX6_readKind_4 : decode cX6_readKind 4 = .ok (.aload_n 0, 1) := by decide +kernel
theorem dX6_readKind_5 : decode cX6_readKind 5 = .ok (.ldc 97, 2) := by decide +kernel
theorem dX6_readKind_7 : decode cX6_readKind 7 = .ok (.invokevirtual 37, 3) := by decide +kernel
theorem dX6_readKind_10 : decode cX6_readKind 10 = .ok (.ifCond .eq 5, 3) := by decide +kernel
theorem dX6_readKind_13 : decode cX6_readKind 13 = .ok (.iconst 0, 1) := by decide +kernel
theorem dX6_readKind_14 : decode cX6_readKind 14 = .ok (.ireturn, 1) := by decide +kernel
theorem dX6_readKind_15 : decode cX6_readKind 15 = .ok (.aload_n 0, 1) := by decide +kernel
theorem dX6_readKind_16 : decode cX6_readKind 16 = .ok (.ldc 99, 2) := by decide +kernel
theorem dX6_readKind_18 : decode cX6_readKind 18 = .ok (.invokevirtual 37, 3) := by decide +kernel
theorem dX6_readKind_21 : decode cX6_readKind 21 = .ok (.ifCond .eq 5, 3) := by decide +kernel
theorem dX6_readKind_24 : decode cX6_readKind 24 = .ok (.iconst 1, 1) := by decide +kernel
theorem dX6_readKind_25 : decode cX6_readKind 25 = .ok (.ireturn, 1) := by decide +kernel
theorem dX6_readKind_26 : decode cX6_readKind 26 = .ok (.aload_n 0, 1) := by decide +kernel
theorem dX6_readKind_27 : decode cX6_readKind 27 = .ok (.ldc 101, 2) := by decide +kernel
theorem dX6_readKind_29 : decode cX6_readKind 29 = .ok (.invokevirtual 37, 3) := by decide +kernel
theorem dX6_readKind_32 : decode cX6_readKind 32 = .ok (.ifCond .eq 5, 3) := by decide +kernel
theorem dX6_readKind_35 : decode cX6_readKind 35 = .ok (.iconst 2, 1) := by decide +kernel
theorem dX6_readKind_36 : decode cX6_readKind 36 = .ok (.ireturn, 1) := by decide +kernel
theorem dX6_readKind_37 : decode cX6_readKind 37 = .ok (.aload_n 0, 1) := by decide +kernel
theorem dX6_readKind_38 : decode cX6_readKind 38 = .ok (.ldc 103, 2) := by decide +kernel
theorem dX6_readKind_40 : decode cX6_readKind 40 = .ok (.invokevirtual 37, 3) := by decide +kernel
theorem dX6_readKind_43 : decode cX6_readKind 43 = .ok (.ifCond .eq 5, 3) := by decide +kernel
theorem dX6_readKind_46 : decode cX6_readKind 46 = .ok (.iconst 3, 1) := by decide +kernel
theorem dX6_readKind_47 : decode cX6_readKind 47 = .ok (.ireturn, 1) := by decide +kernel
theorem dX6_readKind_48 : decode cX6_readKind 48 = .ok (.aload_n 0, 1) := by decide +kernel
theorem dX6_readKind_49 : decode cX6_readKind 49 = .ok (.ldc 105, 2) := by decide +kernel
theorem dX6_readKind_51 : decode cX6_readKind 51 = .ok (.invokevirtual 37, 3) := by decide +kernel
theorem dX6_readKind_54 : decode cX6_readKind 54 = .ok (.ifCond .eq 7, 3) := by decide +kernel
theorem dX6_readKind_57 : decode cX6_readKind 57 = .ok (.iconst 4, 1) := by decide +kernel
theorem dX6_readKind_58 : decode cX6_readKind 58 = .ok (.goto 4, 3) := by decide +kernel
theorem dX6_readKind_61 : decode cX6_readKind 61 = .ok (.iconst (-1), 1) := by decide +kernel
theorem dX6_readKind_62 : decode cX6_readKind 62 = .ok (.ireturn, 1) := by decide +kernel
def f_X6_readKind (N : Nat)  (M : Mem) : Option (Int32 × Mem) := bd (f_X6_readToken N  M) (fun M2 => bd (f_X6_isWord N 4 M2) (fun v3 => if v3 = 0 then (bd (f_X6_isWord N 5 M2) (fun v5 => if v5 = 0 then (bd (f_X6_isWord N 6 M2) (fun v7 => if v7 = 0 then (bd (f_X6_isWord N 7 M2) (fun v9 => if v9 = 0 then (bd (f_X6_isWord N 8 M2) (fun v11 => if v11 = 0 then (some ((-1 : Int32), M2)) else (some ((4 : Int32), M2)))) else (some ((3 : Int32), M2)))) else (some ((2 : Int32), M2)))) else (some ((1 : Int32), M2)))) else (some ((0 : Int32), M2))))
set_option maxRecDepth 100000 in
set_option maxHeartbeats 4000000 in
theorem c_X6_readKind {l : Launch} {D : va_G} {ac : Nat → ClassId} {A : Nat → Prop} {ad : Nat → Nat} {rest : va_W} (N : Nat)   (M : Mem) (r0 : Int32) (M0 : Mem) (hf : f_X6_readKind N  M = some (r0, M0)) : CtI l D ac A tabX ad rest yX6_readKind cX6_readKind 1 .int 7 [.ref (ad 31)] M r0 M0 := by
  refine ct_ofI (own := RX6) (by decide +kernel) rfl (Nat.le_of_ble_eq_true rfl) ?_
  intro p e s m args below meth c C
  unfold f_X6_readKind at hf
  refine a_L (L' := [(0, .ref (ad 31))]) rfl ?_
  refine a_aload_n (pc := 0) C dX6_readKind_0 0 rfl ?_
  refine a_callV_V (pc := 1) (d' := 2) C dX6_readKind_1 ml_X6_22 mc_X6_readToken mv_X6_readToken tx_31 rfl [] rfl (Nat.le_of_ble_eq_true rfl) (Nat.le_of_ble_eq_true rfl) rfl (Nat.le_of_ble_eq_true rfl) (fun M' h => c_X6_readToken N   _  M' h) hf (fun M2 hf => ?_)
  refine a_aload_n (pc := 4) C dX6_readKind_4 0 rfl ?_
  refine a_ldcS (pc := 5) (i := 4) C dX6_readKind_5 (by decide) rfl ?_
  refine a_callV_Ir (pc := 7) (d' := 6) C dX6_readKind_7 ml_X6_37 mc_X6_isWord mv_X6_isWord tx_31 rfl [.ref (ad (1000 + 4))] rfl (Nat.le_of_ble_eq_true rfl) (Nat.le_of_ble_eq_true rfl) rfl (Nat.le_of_ble_eq_true rfl) (fun r h => c_X6_isWord N 4 (show 4 < 9 by decide) _  r h) hf (fun v3 hf => ?_)
  refine a_if_eq (pc := 10) 15 C dX6_readKind_10 (by decide) hf (fun hf => ?_) (fun hf => ?_)
  · refine a_aload_n (pc := 15) C dX6_readKind_15 0 rfl ?_
    refine a_ldcS (pc := 16) (i := 5) C dX6_readKind_16 (by decide) rfl ?_
    refine a_callV_Ir (pc := 18) (d' := 6) C dX6_readKind_18 ml_X6_37 mc_X6_isWord mv_X6_isWord tx_31 rfl [.ref (ad (1000 + 5))] rfl (Nat.le_of_ble_eq_true rfl) (Nat.le_of_ble_eq_true rfl) rfl (Nat.le_of_ble_eq_true rfl) (fun r h => c_X6_isWord N 5 (show 5 < 9 by decide) _  r h) hf (fun v5 hf => ?_)
    refine a_if_eq (pc := 21) 26 C dX6_readKind_21 (by decide) hf (fun hf => ?_) (fun hf => ?_)
    · refine a_aload_n (pc := 26) C dX6_readKind_26 0 rfl ?_
      refine a_ldcS (pc := 27) (i := 6) C dX6_readKind_27 (by decide) rfl ?_
      refine a_callV_Ir (pc := 29) (d' := 6) C dX6_readKind_29 ml_X6_37 mc_X6_isWord mv_X6_isWord tx_31 rfl [.ref (ad (1000 + 6))] rfl (Nat.le_of_ble_eq_true rfl) (Nat.le_of_ble_eq_true rfl) rfl (Nat.le_of_ble_eq_true rfl) (fun r h => c_X6_isWord N 6 (show 6 < 9 by decide) _  r h) hf (fun v7 hf => ?_)
      refine a_if_eq (pc := 32) 37 C dX6_readKind_32 (by decide) hf (fun hf => ?_) (fun hf => ?_)
      · refine a_aload_n (pc := 37) C dX6_readKind_37 0 rfl ?_
        refine a_ldcS (pc := 38) (i := 7) C dX6_readKind_38 (by decide) rfl ?_
        refine a_callV_Ir (pc := 40) (d' := 6) C dX6_readKind_40 ml_X6_37 mc_X6_isWord mv_X6_isWord tx_31 rfl [.ref (ad (1000 + 7))] rfl (Nat.le_of_ble_eq_true rfl) (Nat.le_of_ble_eq_true rfl) rfl (Nat.le_of_ble_eq_true rfl) (fun r h => c_X6_isWord N 7 (show 7 < 9 by decide) _  r h) hf (fun v9 hf => ?_)
        refine a_if_eq (pc := 43) 48 C dX6_readKind_43 (by decide) hf (fun hf => ?_) (fun hf => ?_)
        · refine a_aload_n (pc := 48) C dX6_readKind_48 0 rfl ?_
          refine a_ldcS (pc := 49) (i := 8) C dX6_readKind_49 (by decide) rfl ?_
          refine a_callV_Ir (pc := 51) (d' := 6) C dX6_readKind_51 ml_X6_37 mc_X6_isWord mv_X6_isWord tx_31 rfl [.ref (ad (1000 + 8))] rfl (Nat.le_of_ble_eq_true rfl) (Nat.le_of_ble_eq_true rfl) rfl (Nat.le_of_ble_eq_true rfl) (fun r h => c_X6_isWord N 8 (show 8 < 9 by decide) _  r h) hf (fun v11 hf => ?_)
          refine a_if_eq (pc := 54) 61 C dX6_readKind_54 (by decide) hf (fun hf => ?_) (fun hf => ?_)
          · refine a_iconst (pc := 61) (v := (-1)) C dX6_readKind_61 (by decide) ?_
            exact a_iret (pc := 62) C dX6_readKind_62 (so_1 hf) (so_2 hf)
          · refine a_iconst (pc := 57) (v := 4) C dX6_readKind_57 (by decide) ?_
            refine a_goto (pc := 58) 62 C dX6_readKind_58 (by decide) ?_
            exact a_iret (pc := 62) C dX6_readKind_62 (so_1 hf) (so_2 hf)
        · refine a_iconst (pc := 46) (v := 3) C dX6_readKind_46 (by decide) ?_
          exact a_iret (pc := 47) C dX6_readKind_47 (so_1 hf) (so_2 hf)
      · refine a_iconst (pc := 35) (v := 2) C dX6_readKind_35 (by decide) ?_
        exact a_iret (pc := 36) C dX6_readKind_36 (so_1 hf) (so_2 hf)
    · refine a_iconst (pc := 24) (v := 1) C dX6_readKind_24 (by decide) ?_
      exact a_iret (pc := 25) C dX6_readKind_25 (so_1 hf) (so_2 hf)
  · refine a_iconst (pc := 13) (v := 0) C dX6_readKind_13 (by decide) ?_
    exact a_iret (pc := 14) C dX6_readKind_14 (so_1 hf) (so_2 hf)
theorem dX7_place_0 : decode cX7_place 0 = .ok (.iload_n 1, 1) := by decide +kernel
theorem dX7_place_1 : decode cX7_place 1 = .ok (.iload_n 2, 1) := by decide +kernel
theorem dX7_place_2 : decode cX7_place 2 = .ok (.iload_n 3, 1) := by decide +kernel
theorem dX7_place_3 : decode cX7_place 3 = .ok (.invokestatic 141, 3) := by decide +kernel
theorem dX7_place_6 : decode cX7_place 6 = .ok (.ifCond .eq 15, 3) := by decide +kernel
theorem dX7_place_9 : decode cX7_place 9 = .ok (.aload_n 0, 1) := by decide +kernel
theorem dX7_place_10 : decode cX7_place 10 = .ok (.getfield 12, 3) := by decide +kernel
theorem dX7_place_13 : decode cX7_place 13 = .ok (.iload 4, 2) := by decide +kernel
theorem dX7_place_15 : decode cX7_place 15 = .ok (.invokevirtual 83, 3) := by decide +kernel
theorem dX7_place_18 : decode cX7_place 18 = .ok (.ifCond .ne 6, 3) := by decide +kernel
theorem dX7_place_21 : decode cX7_place 21 = .ok (.bipush (-2), 2) := by decide +kernel
theorem dX7_place_23 : decode cX7_place 23 = .ok (.ireturn, 1) := by decide +kernel
theorem dX7_place_24 : decode cX7_place 24 = .ok (.aload_n 0, 1) := by decide +kernel
theorem dX7_place_25 : decode cX7_place 25 = .ok (.iload_n 1, 1) := by decide +kernel
theorem dX7_place_26 : decode cX7_place 26 = .ok (.iload_n 2, 1) := by decide +kernel
theorem dX7_place_27 : decode cX7_place 27 = .ok (.iload_n 3, 1) := by decide +kernel
theorem dX7_place_28 : decode cX7_place 28 = .ok (.invokevirtual 156, 3) := by decide +kernel
theorem dX7_place_31 : decode cX7_place 31 = .ok (.ifCond .eq 16, 3) := by decide +kernel
theorem dX7_place_34 : decode cX7_place 34 = .ok (.aload_n 0, 1) := by decide +kernel
theorem dX7_place_35 : decode cX7_place 35 = .ok (.getfield 32, 3) := by decide +kernel
theorem dX7_place_38 : decode cX7_place 38 = .ok (.getfield 159, 3) := by decide +kernel
theorem dX7_place_41 : decode cX7_place 41 = .ok (.iload 4, 2) := by decide +kernel
theorem dX7_place_43 : decode cX7_place 43 = .ok (.iaload, 1) := by decide +kernel
theorem dX7_place_44 : decode cX7_place 44 = .ok (.goto 4, 3) := by decide +kernel
theorem dX7_place_47 : decode cX7_place 47 = .ok (.iconst (-1), 1) := by decide +kernel
theorem dX7_place_48 : decode cX7_place 48 = .ok (.ireturn, 1) := by decide +kernel
def f_X7_place (N : Nat) (x1 : Int32) (x2 : Int32) (x3 : Int32) (x4 : Int32) (M : Mem) : Option (Int32 × Mem) := bd (f_X7_areMeasures N x1 x2 x3 M) (fun v1 => if v1 = 0 then (some ((-2 : Int32), M)) else (bd (f_X1_hasPoint N 1 x4 M) (fun v3 => if v3 = 0 then (some ((-2 : Int32), M)) else (bd (f_X7_findFirst N x1 x2 x3 M) (fun w7 => if w7.1 = 0 then (some ((-1 : Int32), w7.2)) else (ck (inb x4 6) (some ((w7.2.1 27 x4.toNatClampNeg), w7.2))))))))
set_option maxRecDepth 100000 in
set_option maxHeartbeats 4000000 in
theorem c_X7_place {l : Launch} {D : va_G} {ac : Nat → ClassId} {A : Nat → Prop} {ad : Nat → Nat} {rest : va_W} (N : Nat) (x1 : Int32) (x2 : Int32) (x3 : Int32) (x4 : Int32)  (M : Mem) (r0 : Int32) (M0 : Mem) (hf : f_X7_place N x1 x2 x3 x4 M = some (r0, M0)) : CtI l D ac A tabX ad rest yX7_place cX7_place 5 .int 7 [.ref (ad 0), .int x1, .int x2, .int x3, .int x4] M r0 M0 := by
  refine ct_ofI (own := RX7) (by decide +kernel) rfl (Nat.le_of_ble_eq_true rfl) ?_
  intro p e s m args below meth c C
  unfold f_X7_place at hf
  refine a_L (L' := [(0, .ref (ad 0)), (1, .int x1), (2, .int x2), (3, .int x3), (4, .int x4)]) rfl ?_
  refine a_iload_n (pc := 0) C dX7_place_0 1 rfl ?_
  refine a_iload_n (pc := 1) C dX7_place_1 2 rfl ?_
  refine a_iload_n (pc := 2) C dX7_place_2 3 rfl ?_
  refine a_callS_Ir (pc := 3) (d' := 2) C dX7_place_3 ml_X7_141 mc_X7_areMeasures ms_X7_areMeasures [.int x1, .int x2, .int x3] rfl (Nat.le_of_ble_eq_true rfl) (Nat.le_of_ble_eq_true rfl) rfl (Nat.le_of_ble_eq_true rfl) (fun r h => c_X7_areMeasures N x1 x2 x3  _  r h) hf (fun v1 hf => ?_)
  refine a_if_eq (pc := 6) 21 C dX7_place_6 (by decide) hf (fun hf => ?_) (fun hf => ?_)
  · refine a_bipush (pc := 21) (v := (-2)) C dX7_place_21 (by decide) ?_
    exact a_iret (pc := 23) C dX7_place_23 (so_1 hf) (so_2 hf)
  · refine a_aload_n (pc := 9) C dX7_place_9 0 rfl ?_
    refine a_getR (pc := 10) C dX7_place_10 fl_X7_12 tx_0 rfl ?_
    refine a_iload (pc := 13) C dX7_place_13 4 rfl ?_
    refine a_callV_Ir (pc := 15) (d' := 1) C dX7_place_15 ml_X7_83 mc_X1_hasPoint mv_X1_hasPoint net_1.1 rfl [.int x4] rfl (Nat.le_of_ble_eq_true rfl) (Nat.le_of_ble_eq_true rfl) rfl (Nat.le_of_ble_eq_true rfl) (fun r h => c_X1_hasPoint N 1 x4 net_1 _  r h) hf (fun v3 hf => ?_)
    refine a_if_ne (pc := 18) 24 C dX7_place_18 (by decide) hf (fun hf => ?_) (fun hf => ?_)
    · refine a_aload_n (pc := 24) C dX7_place_24 0 rfl ?_
      refine a_iload_n (pc := 25) C dX7_place_25 1 rfl ?_
      refine a_iload_n (pc := 26) C dX7_place_26 2 rfl ?_
      refine a_iload_n (pc := 27) C dX7_place_27 3 rfl ?_
      refine a_callV_I (pc := 28) (d' := 6) C dX7_place_28 ml_X7_156 mc_X7_findFirst mv_X7_findFirst tx_0 rfl [.int x1, .int x2, .int x3] rfl (Nat.le_of_ble_eq_true rfl) (Nat.le_of_ble_eq_true rfl) rfl (Nat.le_of_ble_eq_true rfl) (fun r M' h => c_X7_findFirst N x1 x2 x3  _  r M' h) hf (fun v5 M6 hf => ?_)
      refine a_if_eq (pc := 31) 47 C dX7_place_31 (by decide) hf (fun hf => ?_) (fun hf => ?_)
      · refine a_iconst (pc := 47) (v := (-1)) C dX7_place_47 (by decide) ?_
        exact a_iret (pc := 48) C dX7_place_48 (so_1 hf) (so_2 hf)
      · refine a_aload_n (pc := 34) C dX7_place_34 0 rfl ?_
        refine a_getR (pc := 35) C dX7_place_35 fl_X7_32 tx_0 rfl ?_
        refine a_getR (pc := 38) C dX7_place_38 fl_X7_159 tx_26 rfl ?_
        refine a_iload (pc := 41) C dX7_place_41 4 rfl ?_
        refine a_iald (pc := 43) C dX7_place_43 tx_27 hf (fun hf => ?_)
        refine a_goto (pc := 44) 48 C dX7_place_44 (by decide) ?_
        exact a_iret (pc := 48) C dX7_place_48 (so_1 hf) (so_2 hf)
    · refine a_bipush (pc := 21) (v := (-2)) C dX7_place_21 (by decide) ?_
      exact a_iret (pc := 23) C dX7_place_23 (so_1 hf) (so_2 hf)
theorem dX7_whole_0 : decode cX7_whole 0 = .ok (.aload_n 0, 1) := by decide +kernel
theorem dX7_whole_1 : decode cX7_whole 1 = .ok (.getfield 12, 3) := by decide +kernel
theorem dX7_whole_4 : decode cX7_whole 4 = .ok (.getfield 68, 3) := by decide +kernel
theorem dX7_whole_7 : decode cX7_whole 7 = .ok (.ifCond .ne 7, 3) := by decide +kernel
theorem dX7_whole_10 : decode cX7_whole 10 = .ok (.iconst (-1), 1) := by decide +kernel
theorem dX7_whole_11 : decode cX7_whole 11 = .ok (.goto 7, 3) := by decide +kernel
theorem dX7_whole_14 : decode cX7_whole 14 = .ok (.aload_n 0, 1) := by decide +kernel
theorem dX7_whole_15 : decode cX7_whole 15 = .ok (.invokevirtual 172, 3) := by decide +kernel
theorem dX7_whole_18 : decode cX7_whole 18 = .ok (.ireturn, 1) := by decide +kernel
def f_X7_whole (N : Nat)  (M : Mem) : Option (Int32 × Mem) := if (M.1 1 0) = 0 then (some ((-1 : Int32), M)) else (bd (f_X7_leastWhole N  M) (fun w3 => some (w3.1, w3.2)))
set_option maxRecDepth 100000 in
set_option maxHeartbeats 4000000 in
theorem c_X7_whole {l : Launch} {D : va_G} {ac : Nat → ClassId} {A : Nat → Prop} {ad : Nat → Nat} {rest : va_W} (N : Nat)   (M : Mem) (r0 : Int32) (M0 : Mem) (hf : f_X7_whole N  M = some (r0, M0)) : CtI l D ac A tabX ad rest yX7_whole cX7_whole 1 .int 7 [.ref (ad 0)] M r0 M0 := by
  refine ct_ofI (own := RX7) (by decide +kernel) rfl (Nat.le_of_ble_eq_true rfl) ?_
  intro p e s m args below meth c C
  unfold f_X7_whole at hf
  refine a_L (L' := [(0, .ref (ad 0))]) rfl ?_
  refine a_aload_n (pc := 0) C dX7_whole_0 0 rfl ?_
  refine a_getR (pc := 1) C dX7_whole_1 fl_X7_12 tx_0 rfl ?_
  refine a_getI (pc := 4) C dX7_whole_4 fl_X7_68 net_1.1 rfl ?_
  refine a_if_ne (pc := 7) 14 C dX7_whole_7 (by decide) hf (fun hf => ?_) (fun hf => ?_)
  · refine a_aload_n (pc := 14) C dX7_whole_14 0 rfl ?_
    refine a_callV_I (pc := 15) (d' := 6) C dX7_whole_15 ml_X7_172 mc_X7_leastWhole mv_X7_leastWhole tx_0 rfl [] rfl (Nat.le_of_ble_eq_true rfl) (Nat.le_of_ble_eq_true rfl) rfl (Nat.le_of_ble_eq_true rfl) (fun r M' h => c_X7_leastWhole N   _  r M' h) hf (fun v1 M2 hf => ?_)
    exact a_iret (pc := 18) C dX7_whole_18 (so_1 hf) (so_2 hf)
  · refine a_iconst (pc := 10) (v := (-1)) C dX7_whole_10 (by decide) ?_
    refine a_goto (pc := 11) 18 C dX7_whole_11 (by decide) ?_
    exact a_iret (pc := 18) C dX7_whole_18 (so_1 hf) (so_2 hf)
theorem dX7_off_0 : decode cX7_off 0 = .ok (.iload_n 1, 1) := by decide +kernel
theorem dX7_off_1 : decode cX7_off 1 = .ok (.iconst 0, 1) := by decide +kernel
theorem dX7_off_2 : decode cX7_off 2 = .ok (.iconst 1, 1) := by decide +kernel
theorem dX7_off_3 : decode cX7_off 3 = .ok (.invokestatic 64, 3) := by decide +kernel
theorem dX7_off_6 : decode cX7_off 6 = .ok (.ifCond .ne 6, 3) := by decide +kernel
theorem dX7_off_9 : decode cX7_off 9 = .ok (.bipush (-2), 2) := by decide +kernel
theorem dX7_off_11 : decode cX7_off 11 = .ok (.ireturn, 1) := by decide +kernel
theorem dX7_off_12 : decode cX7_off 12 = .ok (.aload_n 0, 1) := by decide +kernel
theorem dX7_off_13 : decode cX7_off 13 = .ok (.getfield 12, 3) := by decide +kernel
theorem dX7_off_16 : decode cX7_off 16 = .ok (.getfield 90, 3) := by decide +kernel
theorem dX7_off_19 : decode cX7_off 19 = .ok (.ifCond .ne 5, 3) := by decide +kernel
theorem dX7_off_22 : decode cX7_off 22 = .ok (.iconst (-1), 1) := by decide +kernel
theorem dX7_off_23 : decode cX7_off 23 = .ok (.ireturn, 1) := by decide +kernel
theorem dX7_off_24 : decode cX7_off 24 = .ok (.aload_n 0, 1) := by decide +kernel
theorem dX7_off_25 : decode cX7_off 25 = .ok (.invokevirtual 172, 3) := by decide +kernel
theorem dX7_off_28 : decode cX7_off 28 = .ok (.istore_n 2, 1) := by decide +kernel
theorem dX7_off_29 : decode cX7_off 29 = .ok (.iload_n 1, 1) := by decide +kernel
theorem dX7_off_30 : decode cX7_off 30 = .ok (.ifCond .ne 23, 3) := by decide +kernel
theorem dX7_off_33 : decode cX7_off 33 = .ok (.iload_n 2, 1) := by decide +kernel
theorem dX7_off_34 : decode cX7_off 34 = .ok (.aload_n 0, 1) := by decide +kernel
theorem dX7_off_35 : decode cX7_off 35 = .ok (.getfield 25, 3) := by decide +kernel
theorem dX7_off_38 : decode cX7_off 38 = .ok (.getfield 169, 3) := by decide +kernel
theorem dX7_off_41 : decode cX7_off 41 = .ok (.imul, 1) := by decide +kernel
theorem dX7_off_42 : decode cX7_off 42 = .ok (.aload_n 0, 1) := by decide +kernel
theorem dX7_off_43 : decode cX7_off 43 = .ok (.getfield 25, 3) := by decide +kernel
theorem dX7_off_46 : decode cX7_off 46 = .ok (.getfield 166, 3) := by decide +kernel
theorem dX7_off_49 : decode cX7_off 49 = .ok (.isub, 1) := by decide +kernel
theorem dX7_off_50 : decode cX7_off 50 = .ok (.goto 10, 3) := by decide +kernel
theorem dX7_off_53 : decode cX7_off 53 = .ok (.aload_n 0, 1) := by decide +kernel
theorem dX7_off_54 : decode cX7_off 54 = .ok (.getfield 25, 3) := by decide +kernel
theorem dX7_off_57 : decode cX7_off 57 = .ok (.getfield 169, 3) := by decide +kernel
theorem dX7_off_60 : decode cX7_off 60 = .ok (.ireturn, 1) := by decide +kernel
def f_X7_off (N : Nat) (x1 : Int32) (M : Mem) : Option (Int32 × Mem) := bd (f_X7_within N x1 (0 : Int32) (1 : Int32) M) (fun v1 => if v1 = 0 then (some ((-2 : Int32), M)) else (if (M.1 1 1) = 0 then (some ((-1 : Int32), M)) else (bd (f_X7_leastWhole N  M) (fun w5 => if x1 = 0 then (some (((w5.1 * (w5.2.1 19 4)) - (w5.2.1 19 3)), w5.2)) else (some ((w5.2.1 19 4), w5.2))))))
set_option maxRecDepth 100000 in
set_option maxHeartbeats 4000000 in
theorem c_X7_off {l : Launch} {D : va_G} {ac : Nat → ClassId} {A : Nat → Prop} {ad : Nat → Nat} {rest : va_W} (N : Nat) (x1 : Int32)  (M : Mem) (r0 : Int32) (M0 : Mem) (hf : f_X7_off N x1 M = some (r0, M0)) : CtI l D ac A tabX ad rest yX7_off cX7_off 3 .int 7 [.ref (ad 0), .int x1] M r0 M0 := by
  refine ct_ofI (own := RX7) (by decide +kernel) rfl (Nat.le_of_ble_eq_true rfl) ?_
  intro p e s m args below meth c C
  unfold f_X7_off at hf
  refine a_L (L' := [(0, .ref (ad 0)), (1, .int x1)]) rfl ?_
  refine a_iload_n (pc := 0) C dX7_off_0 1 rfl ?_
  refine a_iconst (pc := 1) (v := 0) C dX7_off_1 (by decide) ?_
  refine a_iconst (pc := 2) (v := 1) C dX7_off_2 (by decide) ?_
  refine a_callS_Ir (pc := 3) (d' := 1) C dX7_off_3 ml_X7_64 mc_X7_within ms_X7_within [.int x1, .int (0 : Int32), .int (1 : Int32)] rfl (Nat.le_of_ble_eq_true rfl) (Nat.le_of_ble_eq_true rfl) rfl (Nat.le_of_ble_eq_true rfl) (fun r h => c_X7_within N x1 (0 : Int32) (1 : Int32)  _  r h) hf (fun v1 hf => ?_)
  refine a_if_ne (pc := 6) 12 C dX7_off_6 (by decide) hf (fun hf => ?_) (fun hf => ?_)
  · refine a_aload_n (pc := 12) C dX7_off_12 0 rfl ?_
    refine a_getR (pc := 13) C dX7_off_13 fl_X7_12 tx_0 rfl ?_
    refine a_getI (pc := 16) C dX7_off_16 fl_X7_90 net_1.1 rfl ?_
    refine a_if_ne (pc := 19) 24 C dX7_off_19 (by decide) hf (fun hf => ?_) (fun hf => ?_)
    · refine a_aload_n (pc := 24) C dX7_off_24 0 rfl ?_
      refine a_callV_I (pc := 25) (d' := 6) C dX7_off_25 ml_X7_172 mc_X7_leastWhole mv_X7_leastWhole tx_0 rfl [] rfl (Nat.le_of_ble_eq_true rfl) (Nat.le_of_ble_eq_true rfl) rfl (Nat.le_of_ble_eq_true rfl) (fun r M' h => c_X7_leastWhole N   _  r M' h) hf (fun v3 M4 hf => ?_)
      refine a_istore_n (pc := 28) [(2, .int v3), (0, .ref (ad 0)), (1, .int x1)] C dX7_off_28 (by decide) rfl ?_
      refine a_iload_n (pc := 29) C dX7_off_29 2 rfl ?_
      refine a_if_ne (pc := 30) 53 C dX7_off_30 (by decide) hf (fun hf => ?_) (fun hf => ?_)
      · refine a_aload_n (pc := 53) C dX7_off_53 1 rfl ?_
        refine a_getR (pc := 54) C dX7_off_54 fl_X7_25 tx_0 rfl ?_
        refine a_getI (pc := 57) C dX7_off_57 fl_X7_169 tx_19 rfl ?_
        exact a_iret (pc := 60) C dX7_off_60 (so_1 hf) (so_2 hf)
      · refine a_iload_n (pc := 33) C dX7_off_33 0 rfl ?_
        refine a_aload_n (pc := 34) C dX7_off_34 1 rfl ?_
        refine a_getR (pc := 35) C dX7_off_35 fl_X7_25 tx_0 rfl ?_
        refine a_getI (pc := 38) C dX7_off_38 fl_X7_169 tx_19 rfl ?_
        refine a_imul (pc := 41) C dX7_off_41 ?_
        refine a_aload_n (pc := 42) C dX7_off_42 1 rfl ?_
        refine a_getR (pc := 43) C dX7_off_43 fl_X7_25 tx_0 rfl ?_
        refine a_getI (pc := 46) C dX7_off_46 fl_X7_166 tx_19 rfl ?_
        refine a_isub (pc := 49) C dX7_off_49 ?_
        refine a_goto (pc := 50) 60 C dX7_off_50 (by decide) ?_
        exact a_iret (pc := 60) C dX7_off_60 (so_1 hf) (so_2 hf)
    · refine a_iconst (pc := 22) (v := (-1)) C dX7_off_22 (by decide) ?_
      exact a_iret (pc := 23) C dX7_off_23 (so_1 hf) (so_2 hf)
  · refine a_bipush (pc := 9) (v := (-2)) C dX7_off_9 (by decide) ?_
    exact a_iret (pc := 11) C dX7_off_11 (so_1 hf) (so_2 hf)
theorem dX7_paint_0 : decode cX7_paint 0 = .ok (.iload_n 1, 1) := by decide +kernel
theorem dX7_paint_1 : decode cX7_paint 1 = .ok (.invokestatic 243, 3) := by decide +kernel
theorem dX7_paint_4 : decode cX7_paint 4 = .ok (.ifCond .eq 13, 3) := by decide +kernel
theorem dX7_paint_7 : decode cX7_paint 7 = .ok (.iload_n 2, 1) := by decide +kernel
theorem dX7_paint_8 : decode cX7_paint 8 = .ok (.iload_n 3, 1) := by decide +kernel
theorem dX7_paint_9 : decode cX7_paint 9 = .ok (.iload 4, 2) := by decide +kernel
theorem dX7_paint_11 : decode cX7_paint 11 = .ok (.invokestatic 141, 3) := by decide +kernel
theorem dX7_paint_14 : decode cX7_paint 14 = .ok (.ifCond .ne 6, 3) := by decide +kernel
theorem dX7_paint_17 : decode cX7_paint 17 = .ok (.bipush (-2), 2) := by decide +kernel
theorem dX7_paint_19 : decode cX7_paint 19 = .ok (.ireturn, 1) := by decide +kernel
theorem dX7_paint_20 : decode cX7_paint 20 = .ok (.aload_n 0, 1) := by decide +kernel
theorem dX7_paint_21 : decode cX7_paint 21 = .ok (.iload_n 2, 1) := by decide +kernel
theorem dX7_paint_22 : decode cX7_paint 22 = .ok (.iload_n 3, 1) := by decide +kernel
theorem dX7_paint_23 : decode cX7_paint 23 = .ok (.iload 4, 2) := by decide +kernel
theorem dX7_paint_25 : decode cX7_paint 25 = .ok (.invokevirtual 156, 3) := by decide +kernel
theorem dX7_paint_28 : decode cX7_paint 28 = .ok (.ifCond .ne 5, 3) := by decide +kernel
theorem dX7_paint_31 : decode cX7_paint 31 = .ok (.iconst (-1), 1) := by decide +kernel
theorem dX7_paint_32 : decode cX7_paint 32 = .ok (.ireturn, 1) := by decide +kernel
theorem dX7_paint_33 : decode cX7_paint 33 = .ok (.aload_n 0, 1) := by decide +kernel
theorem dX7_paint_34 : decode cX7_paint 34 = .ok (.getfield 59, 3) := by decide +kernel
theorem dX7_paint_37 : decode cX7_paint 37 = .ok (.iload_n 1, 1) := by decide +kernel
theorem dX7_paint_38 : decode cX7_paint 38 = .ok (.aaload, 1) := by decide +kernel
theorem dX7_paint_39 : decode cX7_paint 39 = .ok (.iconst 0, 1) := by decide +kernel
theorem dX7_paint_40 : decode cX7_paint 40 = .ok (.aload_n 0, 1) := by decide +kernel
theorem dX7_paint_41 : decode cX7_paint 41 = .ok (.getfield 12, 3) := by decide +kernel
theorem dX7_paint_44 : decode cX7_paint 44 = .ok (.getfield 68, 3) := by decide +kernel
theorem dX7_paint_47 : decode cX7_paint 47 = .ok (.invokevirtual 331, 3) := by decide +kernel
theorem dX7_paint_50 : decode cX7_paint 50 = .ok (.iconst 0, 1) := by decide +kernel
theorem dX7_paint_51 : decode cX7_paint 51 = .ok (.istore 5, 2) := by decide +kernel
theorem dX7_paint_53 : decode cX7_paint 53 = .ok (.iload 5, 2) := by decide +kernel
theorem dX7_paint_55 : decode cX7_paint 55 = .ok (.aload_n 0, 1) := by decide +kernel
theorem dX7_paint_56 : decode cX7_paint 56 = .ok (.getfield 12, 3) := by decide +kernel
theorem dX7_paint_59 : decode cX7_paint 59 = .ok (.getfield 68, 3) := by decide +kernel
theorem dX7_paint_62 : decode cX7_paint 62 = .ok (.if_icmp .ge 32, 3) := by decide +kernel
theorem dX7_paint_65 : decode cX7_paint 65 = .ok (.aload_n 0, 1) := by decide +kernel
theorem dX7_paint_66 : decode cX7_paint 66 = .ok (.getfield 59, 3) := by decide +kernel
theorem dX7_paint_69 : decode cX7_paint 69 = .ok (.iload_n 1, 1) := by decide +kernel
theorem dX7_paint_70 : decode cX7_paint 70 = .ok (.aaload, 1) := by decide +kernel
theorem dX7_paint_71 : decode cX7_paint 71 = .ok (.getfield 246, 3) := by decide +kernel
theorem dX7_paint_74 : decode cX7_paint 74 = .ok (.iload 5, 2) := by decide +kernel
theorem dX7_paint_76 : decode cX7_paint 76 = .ok (.aload_n 0, 1) := by decide +kernel
theorem dX7_paint_77 : decode cX7_paint 77 = .ok (.getfield 32, 3) := by decide +kernel
theorem dX7_paint_80 : decode cX7_paint 80 = .ok (.getfield 159, 3) := by decide +kernel
theorem dX7_paint_83 : decode cX7_paint 83 = .ok (.iload 5, 2) := by decide +kernel
theorem dX7_paint_85 : decode cX7_paint 85 = .ok (.iaload, 1) := by decide +kernel
theorem dX7_paint_86 : decode cX7_paint 86 = .ok (.i2l, 1) := by decide +kernel
theorem dX7_paint_87 : decode cX7_paint 87 = .ok (.lastore, 1) := by decide +kernel
theorem dX7_paint_88 : decode cX7_paint 88 = .ok (.iinc 5 1, 3) := by decide +kernel
theorem dX7_paint_91 : decode cX7_paint 91 = .ok (.goto (-38), 3) := by decide +kernel
theorem dX7_paint_94 : decode cX7_paint 94 = .ok (.aload_n 0, 1) := by decide +kernel
theorem dX7_paint_95 : decode cX7_paint 95 = .ok (.getfield 12, 3) := by decide +kernel
theorem dX7_paint_98 : decode cX7_paint 98 = .ok (.getfield 68, 3) := by decide +kernel
theorem dX7_paint_101 : decode cX7_paint 101 = .ok (.ireturn, 1) := by decide +kernel
def f_X7_paint (N : Nat) (x1 : Int32) (x2 : Int32) (x3 : Int32) (x4 : Int32) (M : Mem) : Option (Int32 × Mem) := bd (f_X7_isSheet N x1 M) (fun v1 => if v1 = 0 then (some ((-2 : Int32), M)) else (bd (f_X7_areMeasures N x2 x3 x4 M) (fun v3 => if v3 = 0 then (some ((-2 : Int32), M)) else (bd (f_X7_findFirst N x2 x3 x4 M) (fun w7 => if w7.1 = 0 then (some ((-1 : Int32), w7.2)) else (ck (inb x1 4) (bd (f_X5_begin N (sheetC x1.toNatClampNeg) (0 : Int32) (w7.2.1 1 0) w7.2) (fun M10 => lp (fun (k53 : (Int32 × Mem) → Option (Int32 × Mem)) (a53 : Int32 × Mem) => if (a53.2.1 1 0) ≤ a53.1 then (some ((a53.2.1 1 0), a53.2)) else (ck (inb x1 4) (ck (inb a53.1 6) (ck (inb a53.1 40) (nm (setJ a53.2 ((sheetC x1.toNatClampNeg) + 1) a53.1.toNatClampNeg ((a53.2.1 27 a53.1.toNatClampNeg).toInt64)) (fun M12 => nm (a53.1 + (1 : Int32)) (fun v13 => k53 (v13, M12)))))))) N ((0 : Int32), M10)))))))))
set_option maxRecDepth 100000 in
set_option maxHeartbeats 4000000 in
theorem c_X7_paint {l : Launch} {D : va_G} {ac : Nat → ClassId} {A : Nat → Prop} {ad : Nat → Nat} {rest : va_W} (N : Nat) (x1 : Int32) (x2 : Int32) (x3 : Int32) (x4 : Int32)  (M : Mem) (r0 : Int32) (M0 : Mem) (hf : f_X7_paint N x1 x2 x3 x4 M = some (r0, M0)) : CtI l D ac A tabX ad rest yX7_paint cX7_paint 6 .int 7 [.ref (ad 0), .int x1, .int x2, .int x3, .int x4] M r0 M0 := by
  refine ct_ofI (own := RX7) (by decide +kernel) rfl (Nat.le_of_ble_eq_true rfl) ?_
  intro p e s m args below meth c C
  unfold f_X7_paint at hf
  refine a_L (L' := [(0, .ref (ad 0)), (1, .int x1), (2, .int x2), (3, .int x3), (4, .int x4)]) rfl ?_
  refine a_iload_n (pc := 0) C dX7_paint_0 1 rfl ?_
  refine a_callS_Ir (pc := 1) (d' := 2) C dX7_paint_1 ml_X7_243 mc_X7_isSheet ms_X7_isSheet [.int x1] rfl (Nat.le_of_ble_eq_true rfl) (Nat.le_of_ble_eq_true rfl) rfl (Nat.le_of_ble_eq_true rfl) (fun r h => c_X7_isSheet N x1  _  r h) hf (fun v1 hf => ?_)
  refine a_if_eq (pc := 4) 17 C dX7_paint_4 (by decide) hf (fun hf => ?_) (fun hf => ?_)
  · refine a_bipush (pc := 17) (v := (-2)) C dX7_paint_17 (by decide) ?_
    exact a_iret (pc := 19) C dX7_paint_19 (so_1 hf) (so_2 hf)
  · refine a_iload_n (pc := 7) C dX7_paint_7 2 rfl ?_
    refine a_iload_n (pc := 8) C dX7_paint_8 3 rfl ?_
    refine a_iload (pc := 9) C dX7_paint_9 4 rfl ?_
    refine a_callS_Ir (pc := 11) (d' := 2) C dX7_paint_11 ml_X7_141 mc_X7_areMeasures ms_X7_areMeasures [.int x2, .int x3, .int x4] rfl (Nat.le_of_ble_eq_true rfl) (Nat.le_of_ble_eq_true rfl) rfl (Nat.le_of_ble_eq_true rfl) (fun r h => c_X7_areMeasures N x2 x3 x4  _  r h) hf (fun v3 hf => ?_)
    refine a_if_ne (pc := 14) 20 C dX7_paint_14 (by decide) hf (fun hf => ?_) (fun hf => ?_)
    · refine a_aload_n (pc := 20) C dX7_paint_20 0 rfl ?_
      refine a_iload_n (pc := 21) C dX7_paint_21 2 rfl ?_
      refine a_iload_n (pc := 22) C dX7_paint_22 3 rfl ?_
      refine a_iload (pc := 23) C dX7_paint_23 4 rfl ?_
      refine a_callV_I (pc := 25) (d' := 6) C dX7_paint_25 ml_X7_156 mc_X7_findFirst mv_X7_findFirst tx_0 rfl [.int x2, .int x3, .int x4] rfl (Nat.le_of_ble_eq_true rfl) (Nat.le_of_ble_eq_true rfl) rfl (Nat.le_of_ble_eq_true rfl) (fun r M' h => c_X7_findFirst N x2 x3 x4  _  r M' h) hf (fun v5 M6 hf => ?_)
      refine a_if_ne (pc := 28) 33 C dX7_paint_28 (by decide) hf (fun hf => ?_) (fun hf => ?_)
      · refine a_aload_n (pc := 33) C dX7_paint_33 0 rfl ?_
        refine a_getR (pc := 34) C dX7_paint_34 fl_X7_59 tx_0 rfl ?_
        refine a_iload_n (pc := 37) C dX7_paint_37 1 rfl ?_
        have hx8 := (ck_some hf).1
        refine a_aald (pc := 38) C dX7_paint_38 tx_39 rfl hf (fun hf => ?_)
        refine a_iconst (pc := 39) (v := 0) C dX7_paint_39 (by decide) ?_
        refine a_aload_n (pc := 40) C dX7_paint_40 0 rfl ?_
        refine a_getR (pc := 41) C dX7_paint_41 fl_X7_12 tx_0 rfl ?_
        refine a_getI (pc := 44) C dX7_paint_44 fl_X7_68 net_1.1 rfl ?_
        refine a_callV_V (pc := 47) (d' := 2) C dX7_paint_47 ml_X7_331 mc_X5_begin mv_X5_begin (sheet_at hx8).1 rfl [.int (0 : Int32), .int (M6.1 1 0)] rfl (Nat.le_of_ble_eq_true rfl) (Nat.le_of_ble_eq_true rfl) rfl (Nat.le_of_ble_eq_true rfl) (fun M' h => c_X5_begin N (sheetC x1.toNatClampNeg) (0 : Int32) (M6.1 1 0) (sheet_at hx8) _  M' h) hf (fun M10 hf => ?_)
        refine a_iconst (pc := 50) (v := 0) C dX7_paint_50 (by decide) ?_
        refine a_istore (pc := 51) [(5, .int (0 : Int32)), (0, .ref (ad 0)), (1, .int x1), (2, .int x2), (3, .int x3), (4, .int x4)] C dX7_paint_51 (by decide) rfl ?_
        refine a_sub [1, 2, 0] rfl ?_
        refine a_lp 53 (fun a53 : Int32 × Mem => [(0, .ref (ad 0)), (1, .int x1), (5, .int a53.1)]) (fun a53 : Int32 × Mem => []) (fun a53 : Int32 × Mem => a53.2) (fun k53 a53 hk53 hf => ?_) N ((0 : Int32), M10) hf
        refine a_iload (pc := 53) C dX7_paint_53 2 rfl ?_
        refine a_aload_n (pc := 55) C dX7_paint_55 0 rfl ?_
        refine a_getR (pc := 56) C dX7_paint_56 fl_X7_12 tx_0 rfl ?_
        refine a_getI (pc := 59) C dX7_paint_59 fl_X7_68 net_1.1 rfl ?_
        refine a_icmp_ge (pc := 62) 94 C dX7_paint_62 (by decide) hf (fun hf => ?_) (fun hf => ?_)
        · refine a_aload_n (pc := 94) C dX7_paint_94 0 rfl ?_
          refine a_getR (pc := 95) C dX7_paint_95 fl_X7_12 tx_0 rfl ?_
          refine a_getI (pc := 98) C dX7_paint_98 fl_X7_68 net_1.1 rfl ?_
          exact a_iret (pc := 101) C dX7_paint_101 (so_1 hf) (so_2 hf)
        · refine a_aload_n (pc := 65) C dX7_paint_65 0 rfl ?_
          refine a_getR (pc := 66) C dX7_paint_66 fl_X7_59 tx_0 rfl ?_
          refine a_iload_n (pc := 69) C dX7_paint_69 1 rfl ?_
          have hx11 := (ck_some hf).1
          refine a_aald (pc := 70) C dX7_paint_70 tx_39 rfl hf (fun hf => ?_)
          refine a_getR (pc := 71) C dX7_paint_71 fl_X7_246 (sheet_at hx11).1 rfl ?_
          refine a_iload (pc := 74) C dX7_paint_74 2 rfl ?_
          refine a_aload_n (pc := 76) C dX7_paint_76 0 rfl ?_
          refine a_getR (pc := 77) C dX7_paint_77 fl_X7_32 tx_0 rfl ?_
          refine a_getR (pc := 80) C dX7_paint_80 fl_X7_159 tx_26 rfl ?_
          refine a_iload (pc := 83) C dX7_paint_83 2 rfl ?_
          refine a_iald (pc := 85) C dX7_paint_85 tx_27 hf (fun hf => ?_)
          refine a_i2l (pc := 86) C dX7_paint_86 ?_
          refine a_last (pc := 87) C dX7_paint_87 (sheet_at hx11).2 hf (fun M12 hf => ?_)
          refine a_iinc (pc := 88) (v := 1) (fun v13 => [(5, .int v13), (0, .ref (ad 0)), (1, .int x1)]) C dX7_paint_88 2 rfl (by decide) (by decide) (fun _ => rfl) hf (fun v13 hf => ?_)
          refine a_goto (pc := 91) 53 C dX7_paint_91 (by decide) ?_
          exact a_sub [1, 2, 0] rfl (hk53 (v13, M12) hf)
      · refine a_iconst (pc := 31) (v := (-1)) C dX7_paint_31 (by decide) ?_
        exact a_iret (pc := 32) C dX7_paint_32 (so_1 hf) (so_2 hf)
    · refine a_bipush (pc := 17) (v := (-2)) C dX7_paint_17 (by decide) ?_
      exact a_iret (pc := 19) C dX7_paint_19 (so_1 hf) (so_2 hf)
theorem dX8_itemsRead_0 : decode cX8_itemsRead 0 = .ok (.aload_n 0, 1) := by decide +kernel
theorem dX8_itemsRead_1 : decode cX8_itemsRead 1 = .ok (.iconst 0, 1) := by decide +kernel
theorem dX8_itemsRead_2 : decode cX8_itemsRead 2 = .ok (.putfield 302, 3) := by decide +kernel
theorem dX8_itemsRead_5 : decode cX8_itemsRead 5 = .ok (.aload_n 0, 1) := by decide +kernel
theorem dX8_itemsRead_6 : decode cX8_itemsRead 6 = .ok (.invokevirtual 321, 3) := by decide +kernel
theorem dX8_itemsRead_9 : decode cX8_itemsRead 9 = .ok (.iconst 0, 1) := by decide +kernel
theorem dX8_itemsRead_10 : decode cX8_itemsRead 10 = .ok (.istore_n 1, 1) := by decide +kernel
theorem dX8_itemsRead_11 : decode cX8_itemsRead 11 = .ok (.aload_n 0, 1) := by decide +kernel
theorem dX8_itemsRead_12 : decode cX8_itemsRead 12 = .ok (.invokevirtual 334, 3) := by decide +kernel
theorem dX8_itemsRead_15 : decode cX8_itemsRead 15 = .ok (.ifCond .ne 5, 3) := by decide +kernel
theorem dX8_itemsRead_18 : decode cX8_itemsRead 18 = .ok (.iconst (-1), 1) := by decide +kernel
theorem dX8_itemsRead_19 : decode cX8_itemsRead 19 = .ok (.ireturn, 1) := by decide +kernel
theorem dX8_itemsRead_20 : decode cX8_itemsRead 20 = .ok (.iinc 1 1, 3) := by decide +kernel
theorem dX8_itemsRead_23 : decode cX8_itemsRead 23 = .ok (.aload_n 0, 1) := by decide +kernel
theorem dX8_itemsRead_24 : decode cX8_itemsRead 24 = .ok (.getfield 314, 3) := by decide +kernel
theorem dX8_itemsRead_27 : decode cX8_itemsRead 27 = .ok (.ifCond .ne 5, 3) := by decide +kernel
theorem dX8_itemsRead_30 : decode cX8_itemsRead 30 = .ok (.iload_n 1, 1) := by decide +kernel
theorem dX8_itemsRead_31 : decode cX8_itemsRead 31 = .ok (.ireturn, 1) := by decide +kernel
theorem dX8_itemsRead_32 : decode cX8_itemsRead 32 = .ok (.aload_n 0, 1) := by decide +kernel
theorem dX8_itemsRead_33 : decode cX8_itemsRead 33 = .ok (.getfield 314, 3) := by decide +kernel
theorem dX8_itemsRead_36 : decode cX8_itemsRead 36 = .ok (.iconst 3, 1) := by decide +kernel
theorem dX8_itemsRead_37 : decode cX8_itemsRead 37 = .ok (.if_icmp .eq 5, 3) := by decide +kernel
theorem dX8_itemsRead_40 : decode cX8_itemsRead 40 = .ok (.iconst (-1), 1) := by decide +kernel
theorem dX8_itemsRead_41 : decode cX8_itemsRead 41 = .ok (.ireturn, 1) := by decide +kernel
theorem dX8_itemsRead_42 : decode cX8_itemsRead 42 = .ok (.aload_n 0, 1) := by decide +kernel
theorem dX8_itemsRead_43 : decode cX8_itemsRead 43 = .ok (.invokevirtual 321, 3) := by decide +kernel
theorem dX8_itemsRead_46 : decode cX8_itemsRead 46 = .ok (.goto (-35), 3) := by decide +kernel
def f_X8_itemsRead (N : Nat)  (M : Mem) : Option (Int32 × Mem) := nm (setI M 0 33 (0 : Int32)) (fun M1 => bd (f_X8_goes N  M1) (fun M3 => lp (fun (k11 : (Int32 × Mem) → Option (Int32 × Mem)) (a11 : Int32 × Mem) => bd (f_X8_item N  a11.2) (fun w6 => if w6.1 = 0 then (some ((-1 : Int32), w6.2)) else (nm (a11.1 + (1 : Int32)) (fun v7 => if (w6.2.1 0 34) = 0 then (some (v7, w6.2)) else (if (w6.2.1 0 34) = (3 : Int32) then (bd (f_X8_goes N  w6.2) (fun M9 => k11 (v7, M9))) else (some ((-1 : Int32), w6.2))))))) N ((0 : Int32), M3)))
set_option maxRecDepth 100000 in
set_option maxHeartbeats 4000000 in
theorem c_X8_itemsRead {l : Launch} {D : va_G} {ac : Nat → ClassId} {A : Nat → Prop} {ad : Nat → Nat} {rest : va_W} (N : Nat)   (M : Mem) (r0 : Int32) (M0 : Mem) (hf : f_X8_itemsRead N  M = some (r0, M0)) : CtI l D ac A tabM ad rest yX8_itemsRead cX8_itemsRead 2 .int 7 [.ref (ad 0)] M r0 M0 := by
  refine ct_ofI (own := RX8) (by decide +kernel) rfl (Nat.le_of_ble_eq_true rfl) ?_
  intro p e s m args below meth c C
  unfold f_X8_itemsRead at hf
  refine a_L (L' := [(0, .ref (ad 0))]) rfl ?_
  refine a_aload_n (pc := 0) C dX8_itemsRead_0 0 rfl ?_
  refine a_iconst (pc := 1) (v := 0) C dX8_itemsRead_1 (by decide) ?_
  refine a_putI (pc := 2) C dX8_itemsRead_2 fl_X8_302 tm_0 rfl hf (fun M1 hf => ?_)
  refine a_aload_n (pc := 5) C dX8_itemsRead_5 0 rfl ?_
  refine a_callV_V (pc := 6) (d' := 3) C dX8_itemsRead_6 ml_X8_321 mc_X8_goes mv_X8_goes tm_0 rfl [] rfl (Nat.le_of_ble_eq_true rfl) (Nat.le_of_ble_eq_true rfl) rfl (Nat.le_of_ble_eq_true rfl) (fun M' h => c_X8_goes N   _  M' h) hf (fun M3 hf => ?_)
  refine a_iconst (pc := 9) (v := 0) C dX8_itemsRead_9 (by decide) ?_
  refine a_istore_n (pc := 10) [(1, .int (0 : Int32)), (0, .ref (ad 0))] C dX8_itemsRead_10 (by decide) rfl ?_
  refine a_sub [1, 0] rfl ?_
  refine a_lp 11 (fun a11 : Int32 × Mem => [(0, .ref (ad 0)), (1, .int a11.1)]) (fun a11 : Int32 × Mem => []) (fun a11 : Int32 × Mem => a11.2) (fun k11 a11 hk11 hf => ?_) N ((0 : Int32), M3) hf
  refine a_aload_n (pc := 11) C dX8_itemsRead_11 0 rfl ?_
  refine a_callV_I (pc := 12) (d' := 6) C dX8_itemsRead_12 ml_X8_334 mc_X8_item mv_X8_item tm_0 rfl [] rfl (Nat.le_of_ble_eq_true rfl) (Nat.le_of_ble_eq_true rfl) rfl (Nat.le_of_ble_eq_true rfl) (fun r M' h => c_X8_item N   _  r M' h) hf (fun v4 M5 hf => ?_)
  refine a_if_ne (pc := 15) 20 C dX8_itemsRead_15 (by decide) hf (fun hf => ?_) (fun hf => ?_)
  · refine a_iinc (pc := 20) (v := 1) (fun v7 => [(1, .int v7), (0, .ref (ad 0))]) C dX8_itemsRead_20 1 rfl (by decide) (by decide) (fun _ => rfl) hf (fun v7 hf => ?_)
    refine a_aload_n (pc := 23) C dX8_itemsRead_23 1 rfl ?_
    refine a_getI (pc := 24) C dX8_itemsRead_24 fl_X8_314 tm_0 rfl ?_
    refine a_if_ne (pc := 27) 32 C dX8_itemsRead_27 (by decide) hf (fun hf => ?_) (fun hf => ?_)
    · refine a_aload_n (pc := 32) C dX8_itemsRead_32 1 rfl ?_
      refine a_getI (pc := 33) C dX8_itemsRead_33 fl_X8_314 tm_0 rfl ?_
      refine a_iconst (pc := 36) (v := 3) C dX8_itemsRead_36 (by decide) ?_
      refine a_icmp_eq (pc := 37) 42 C dX8_itemsRead_37 (by decide) hf (fun hf => ?_) (fun hf => ?_)
      · refine a_aload_n (pc := 42) C dX8_itemsRead_42 1 rfl ?_
        refine a_callV_V (pc := 43) (d' := 3) C dX8_itemsRead_43 ml_X8_321 mc_X8_goes mv_X8_goes tm_0 rfl [] rfl (Nat.le_of_ble_eq_true rfl) (Nat.le_of_ble_eq_true rfl) rfl (Nat.le_of_ble_eq_true rfl) (fun M' h => c_X8_goes N   _  M' h) hf (fun M9 hf => ?_)
        refine a_goto (pc := 46) 11 C dX8_itemsRead_46 (by decide) ?_
        exact a_sub [1, 0] rfl (hk11 (v7, M9) hf)
      · refine a_iconst (pc := 40) (v := (-1)) C dX8_itemsRead_40 (by decide) ?_
        exact a_iret (pc := 41) C dX8_itemsRead_41 (so_1 hf) (so_2 hf)
    · refine a_iload_n (pc := 30) C dX8_itemsRead_30 0 rfl ?_
      exact a_iret (pc := 31) C dX8_itemsRead_31 (so_1 hf) (so_2 hf)
  · refine a_iconst (pc := 18) (v := (-1)) C dX8_itemsRead_18 (by decide) ?_
    exact a_iret (pc := 19) C dX8_itemsRead_19 (so_1 hf) (so_2 hf)
theorem dX6_readsLine_0 : decode cX6_readsLine 0 = .ok (.aload_n 0, 1) := by decide +kernel
theorem dX6_readsLine_1 : decode cX6_readsLine 1 = .ok (.invokevirtual 74, 3) := by decide +kernel
theorem dX6_readsLine_4 : decode cX6_readsLine 4 = .ok (.istore_n 2, 1) := by decide +kernel
theorem dX6_readsLine_5 : decode cX6_readsLine 5 = .ok (.iload_n 2, 1) := by decide +kernel
theorem dX6_readsLine_6 : decode cX6_readsLine 6 = .ok (.iconst (-1), 1) := by decide +kernel
theorem dX6_readsLine_7 : decode cX6_readsLine 7 = .ok (.if_icmp .ne 7, 3) := by decide +kernel
theorem dX6_readsLine_10 : decode cX6_readsLine 10 = .ok (.iconst (-1), 1) := by decide +kernel
theorem dX6_readsLine_11 : decode cX6_readsLine 11 = .ok (.goto 9, 3) := by decide +kernel
theorem dX6_readsLine_14 : decode cX6_readsLine 14 = .ok (.aload_n 0, 1) := by decide +kernel
theorem dX6_readsLine_15 : decode cX6_readsLine 15 = .ok (.iconst 1, 1) := by decide +kernel
theorem dX6_readsLine_16 : decode cX6_readsLine 16 = .ok (.iconst 3, 1) := by decide +kernel
theorem dX6_readsLine_17 : decode cX6_readsLine 17 = .ok (.invokevirtual 66, 3) := by decide +kernel
theorem dX6_readsLine_20 : decode cX6_readsLine 20 = .ok (.istore_n 3, 1) := by decide +kernel
theorem dX6_readsLine_21 : decode cX6_readsLine 21 = .ok (.iload_n 3, 1) := by decide +kernel
theorem dX6_readsLine_22 : decode cX6_readsLine 22 = .ok (.iconst (-1), 1) := by decide +kernel
theorem dX6_readsLine_23 : decode cX6_readsLine 23 = .ok (.if_icmp .ne 7, 3) := by decide +kernel
theorem dX6_readsLine_26 : decode cX6_readsLine 26 = .ok (.iconst (-1), 1) := by decide +kernel
theorem dX6_readsLine_27 : decode cX6_readsLine 27 = .ok (.goto 14, 3) := by decide +kernel
theorem dX6_readsLine_30 : decode cX6_readsLine 30 = .ok (.aload_n 0, 1) := by decide +kernel
theorem dX6_readsLine_31 : decode cX6_readsLine 31 = .ok (.iconst 0, 1) := by decide +kernel
theorem dX6_readsLine_32 : decode cX6_readsLine 32 = .ok (.aload_n 1, 1) := by decide +kernel
theorem dX6_readsLine_33 : decode cX6_readsLine 33 = .ok (.getfield 64, 3) := by decide +kernel
theorem dX6_readsLine_36 : decode cX6_readsLine 36 = .ok (.iconst 1, 1) := by decide +kernel
theorem dX6_readsLine_37 : decode cX6_readsLine 37 = .ok (.isub, 1) := by decide +kernel
theorem dX6_readsLine_38 : decode cX6_readsLine 38 = .ok (.invokevirtual 66, 3) := by decide +kernel
theorem dX6_readsLine_41 : decode cX6_readsLine 41 = .ok (.istore 4, 2) := by decide +kernel
theorem dX6_readsLine_43 : decode cX6_readsLine 43 = .ok (.iload 4, 2) := by decide +kernel
theorem dX6_readsLine_45 : decode cX6_readsLine 45 = .ok (.iconst (-1), 1) := by decide +kernel
theorem dX6_readsLine_46 : decode cX6_readsLine 46 = .ok (.if_icmp .ne 7, 3) := by decide +kernel
theorem dX6_readsLine_49 : decode cX6_readsLine 49 = .ok (.iconst (-1), 1) := by decide +kernel
theorem dX6_readsLine_50 : decode cX6_readsLine 50 = .ok (.goto 14, 3) := by decide +kernel
theorem dX6_readsLine_53 : decode cX6_readsLine 53 = .ok (.aload_n 0, 1) := by decide +kernel
theorem dX6_readsLine_54 : decode cX6_readsLine 54 = .ok (.iconst 0, 1) := by decide +kernel
theorem dX6_readsLine_55 : decode cX6_readsLine 55 = .ok (.aload_n 1, 1) := by decide +kernel
theorem dX6_readsLine_56 : decode cX6_readsLine 56 = .ok (.getfield 64, 3) := by decide +kernel
theorem dX6_readsLine_59 : decode cX6_readsLine 59 = .ok (.iconst 1, 1) := by decide +kernel
theorem dX6_readsLine_60 : decode cX6_readsLine 60 = .ok (.isub, 1) := by decide +kernel
theorem dX6_readsLine_61 : decode cX6_readsLine 61 = .ok (.invokevirtual 66, 3) := by decide +kernel
theorem dX6_readsLine_64 : decode cX6_readsLine 64 = .ok (.istore 5, 2) := by decide +kernel
theorem dX6_readsLine_66 : decode cX6_readsLine 66 = .ok (.iload 5, 2) := by decide +kernel
theorem dX6_readsLine_68 : decode cX6_readsLine 68 = .ok (.iconst (-1), 1) := by decide +kernel
theorem dX6_readsLine_69 : decode cX6_readsLine 69 = .ok (.if_icmp .eq 21, 3) := by decide +kernel
theorem dX6_readsLine_72 : decode cX6_readsLine 72 = .ok (.iload 4, 2) := by decide +kernel
theorem dX6_readsLine_74 : decode cX6_readsLine 74 = .ok (.iload 5, 2) := by decide +kernel
theorem dX6_readsLine_76 : decode cX6_readsLine 76 = .ok (.if_icmp .eq 14, 3) := by decide +kernel
theorem dX6_readsLine_79 : decode cX6_readsLine 79 = .ok (.aload_n 1, 1) := by decide +kernel
theorem dX6_readsLine_80 : decode cX6_readsLine 80 = .ok (.iload 4, 2) := by decide +kernel
theorem dX6_readsLine_82 : decode cX6_readsLine 82 = .ok (.iload 5, 2) := by decide +kernel
theorem dX6_readsLine_84 : decode cX6_readsLine 84 = .ok (.invokevirtual 78, 3) := by decide +kernel
theorem dX6_readsLine_87 : decode cX6_readsLine 87 = .ok (.ifCond .eq 5, 3) := by decide +kernel
theorem dX6_readsLine_90 : decode cX6_readsLine 90 = .ok (.iconst 0, 1) := by decide +kernel
theorem dX6_readsLine_91 : decode cX6_readsLine 91 = .ok (.ireturn, 1) := by decide +kernel
theorem dX6_readsLine_92 : decode cX6_readsLine 92 = .ok (.aload_n 1, 1) := by decide +kernel
theorem dX6_readsLine_93 : decode cX6_readsLine 93 = .ok (.iload_n 2, 1) := by decide +kernel
theorem dX6_readsLine_94 : decode cX6_readsLine 94 = .ok (.iload_n 3, 1) := by decide +kernel
theorem dX6_readsLine_95 : decode cX6_readsLine 95 = .ok (.iload 4, 2) := by decide +kernel
theorem dX6_readsLine_97 : decode cX6_readsLine 97 = .ok (.iload 5, 2) := by decide +kernel
theorem dX6_readsLine_99 : decode cX6_readsLine 99 = .ok (.invokevirtual 82, 3) := by decide +kernel
theorem dX6_readsLine_102 : decode cX6_readsLine 102 = .ok (.iconst 1, 1) := by decide +kernel
theorem dX6_readsLine_103 : decode cX6_readsLine 103 = .ok (.ireturn, 1) := by decide +kernel
def f_X6_readsLine (N : Nat) (c1 : Nat) (M : Mem) : Option (Int32 × Mem) := bd (f_X6_readKind N  M) (fun w3 => jn (fun (a20 : Int32 × Mem) => jn (fun (a41 : Int32 × Mem) => jn (fun (a64 : Int32 × Mem) => if a64.1 = (-1 : Int32) then (some ((0 : Int32), a64.2)) else (if a41.1 = a64.1 then (some ((0 : Int32), a64.2)) else (bd (f_X1_areJoined N c1 a41.1 a64.1 a64.2) (fun v4 => if v4 = 0 then (bd (f_X1_addLine N c1 w3.1 a20.1 a41.1 a64.1 a64.2) (fun M7 => some ((1 : Int32), M7))) else (some ((0 : Int32), a64.2)))))) (fun (k64 : (Int32 × Mem) → Option (Int32 × Mem)) => if a41.1 = (-1 : Int32) then (k64 ((-1 : Int32), a41.2)) else (bd (f_X6_readNumber N (0 : Int32) ((a41.2.1 c1 0) - (1 : Int32)) a41.2) (fun w10 => k64 (w10.1, w10.2))))) (fun (k41 : (Int32 × Mem) → Option (Int32 × Mem)) => if a20.1 = (-1 : Int32) then (k41 ((-1 : Int32), a20.2)) else (bd (f_X6_readNumber N (0 : Int32) ((a20.2.1 c1 0) - (1 : Int32)) a20.2) (fun w13 => k41 (w13.1, w13.2))))) (fun (k20 : (Int32 × Mem) → Option (Int32 × Mem)) => if w3.1 = (-1 : Int32) then (k20 ((-1 : Int32), w3.2)) else (bd (f_X6_readNumber N (1 : Int32) (3 : Int32) w3.2) (fun w16 => k20 (w16.1, w16.2)))))
set_option maxRecDepth 100000 in
set_option maxHeartbeats 4000000 in
theorem c_X6_readsLine {l : Launch} {D : va_G} {ac : Nat → ClassId} {A : Nat → Prop} {ad : Nat → Nat} {rest : va_W} (N : Nat) (c1 : Nat) (hc1 : NetAt tabX c1) (M : Mem) (r0 : Int32) (M0 : Mem) (hf : f_X6_readsLine N c1 M = some (r0, M0)) : CtI l D ac A tabX ad rest yX6_readsLine cX6_readsLine 6 .boolean 8 [.ref (ad 31), .ref (ad c1)] M r0 M0 := by
  refine ct_ofI (own := RX6) (by decide +kernel) rfl (Nat.le_of_ble_eq_true rfl) ?_
  intro p e s m args below meth c C
  unfold f_X6_readsLine at hf
  refine a_L (L' := [(0, .ref (ad 31)), (1, .ref (ad c1))]) rfl ?_
  refine a_aload_n (pc := 0) C dX6_readsLine_0 0 rfl ?_
  refine a_callV_I (pc := 1) (d' := 7) C dX6_readsLine_1 ml_X6_74 mc_X6_readKind mv_X6_readKind tx_31 rfl [] rfl (Nat.le_of_ble_eq_true rfl) (Nat.le_of_ble_eq_true rfl) rfl (Nat.le_of_ble_eq_true rfl) (fun r M' h => c_X6_readKind N   _  r M' h) hf (fun v1 M2 hf => ?_)
  refine a_istore_n (pc := 4) [(2, .int v1), (0, .ref (ad 31)), (1, .ref (ad c1))] C dX6_readsLine_4 (by decide) rfl ?_
  refine a_iload_n (pc := 5) C dX6_readsLine_5 0 rfl ?_
  refine a_iconst (pc := 6) (v := (-1)) C dX6_readsLine_6 (by decide) ?_
  refine a_jn 20 (fun a20 : Int32 × Mem => [(0, .ref (ad 31)), (1, .ref (ad c1)), (2, .int v1)]) (fun a20 : Int32 × Mem => [.int a20.1]) (fun a20 : Int32 × Mem => a20.2) hf (fun a20 hf => ?_) (fun k20 hk20 hf => ?_)
  · refine a_istore_n (pc := 20) [(3, .int a20.1), (0, .ref (ad 31)), (1, .ref (ad c1)), (2, .int v1)] C dX6_readsLine_20 (by decide) rfl ?_
    refine a_iload_n (pc := 21) C dX6_readsLine_21 0 rfl ?_
    refine a_iconst (pc := 22) (v := (-1)) C dX6_readsLine_22 (by decide) ?_
    refine a_jn 41 (fun a41 : Int32 × Mem => [(0, .ref (ad 31)), (1, .ref (ad c1)), (2, .int v1), (3, .int a20.1)]) (fun a41 : Int32 × Mem => [.int a41.1]) (fun a41 : Int32 × Mem => a41.2) hf (fun a41 hf => ?_) (fun k41 hk41 hf => ?_)
    · refine a_istore (pc := 41) [(4, .int a41.1), (0, .ref (ad 31)), (1, .ref (ad c1)), (2, .int v1), (3, .int a20.1)] C dX6_readsLine_41 (by decide) rfl ?_
      refine a_iload (pc := 43) C dX6_readsLine_43 0 rfl ?_
      refine a_iconst (pc := 45) (v := (-1)) C dX6_readsLine_45 (by decide) ?_
      refine a_jn 64 (fun a64 : Int32 × Mem => [(1, .ref (ad c1)), (2, .int v1), (3, .int a20.1), (4, .int a41.1)]) (fun a64 : Int32 × Mem => [.int a64.1]) (fun a64 : Int32 × Mem => a64.2) hf (fun a64 hf => ?_) (fun k64 hk64 hf => ?_)
      · refine a_istore (pc := 64) [(5, .int a64.1), (1, .ref (ad c1)), (2, .int v1), (3, .int a20.1), (4, .int a41.1)] C dX6_readsLine_64 (by decide) rfl ?_
        refine a_iload (pc := 66) C dX6_readsLine_66 0 rfl ?_
        refine a_iconst (pc := 68) (v := (-1)) C dX6_readsLine_68 (by decide) ?_
        refine a_icmp_eq (pc := 69) 90 C dX6_readsLine_69 (by decide) hf (fun hf => ?_) (fun hf => ?_)
        · refine a_iconst (pc := 90) (v := 0) C dX6_readsLine_90 (by decide) ?_
          exact a_zret (pc := 91) C dX6_readsLine_91 (Or.inl rfl) (so_1 hf) (so_2 hf)
        · refine a_iload (pc := 72) C dX6_readsLine_72 4 rfl ?_
          refine a_iload (pc := 74) C dX6_readsLine_74 0 rfl ?_
          refine a_icmp_eq (pc := 76) 90 C dX6_readsLine_76 (by decide) hf (fun hf => ?_) (fun hf => ?_)
          · refine a_iconst (pc := 90) (v := 0) C dX6_readsLine_90 (by decide) ?_
            exact a_zret (pc := 91) C dX6_readsLine_91 (Or.inl rfl) (so_1 hf) (so_2 hf)
          · refine a_aload_n (pc := 79) C dX6_readsLine_79 1 rfl ?_
            refine a_iload (pc := 80) C dX6_readsLine_80 4 rfl ?_
            refine a_iload (pc := 82) C dX6_readsLine_82 0 rfl ?_
            refine a_callV_Ir (pc := 84) (d' := 2) C dX6_readsLine_84 ml_X6_78 mc_X1_areJoined mv_X1_areJoined hc1.1 rfl [.int a41.1, .int a64.1] rfl (Nat.le_of_ble_eq_true rfl) (Nat.le_of_ble_eq_true rfl) rfl (Nat.le_of_ble_eq_true rfl) (fun r h => c_X1_areJoined N c1 a41.1 a64.1 hc1 _  r h) hf (fun v4 hf => ?_)
            refine a_if_eq (pc := 87) 92 C dX6_readsLine_87 (by decide) hf (fun hf => ?_) (fun hf => ?_)
            · refine a_aload_n (pc := 92) C dX6_readsLine_92 1 rfl ?_
              refine a_iload_n (pc := 93) C dX6_readsLine_93 2 rfl ?_
              refine a_iload_n (pc := 94) C dX6_readsLine_94 3 rfl ?_
              refine a_iload (pc := 95) C dX6_readsLine_95 4 rfl ?_
              refine a_iload (pc := 97) C dX6_readsLine_97 0 rfl ?_
              refine a_callV_V (pc := 99) (d' := 2) C dX6_readsLine_99 ml_X6_82 mc_X1_addLine mv_X1_addLine hc1.1 rfl [.int v1, .int a20.1, .int a41.1, .int a64.1] rfl (Nat.le_of_ble_eq_true rfl) (Nat.le_of_ble_eq_true rfl) rfl (Nat.le_of_ble_eq_true rfl) (fun M' h => c_X1_addLine N c1 v1 a20.1 a41.1 a64.1 hc1 _  M' h) hf (fun M7 hf => ?_)
              refine a_iconst (pc := 102) (v := 1) C dX6_readsLine_102 (by decide) ?_
              exact a_zret (pc := 103) C dX6_readsLine_103 (Or.inr rfl) (so_1 hf) (so_2 hf)
            · refine a_iconst (pc := 90) (v := 0) C dX6_readsLine_90 (by decide) ?_
              exact a_zret (pc := 91) C dX6_readsLine_91 (Or.inl rfl) (so_1 hf) (so_2 hf)
      · refine a_icmp_ne (pc := 46) 53 C dX6_readsLine_46 (by decide) hf (fun hf => ?_) (fun hf => ?_)
        · refine a_aload_n (pc := 53) C dX6_readsLine_53 1 rfl ?_
          refine a_iconst (pc := 54) (v := 0) C dX6_readsLine_54 (by decide) ?_
          refine a_aload_n (pc := 55) C dX6_readsLine_55 2 rfl ?_
          refine a_getI (pc := 56) C dX6_readsLine_56 fl_X6_64 hc1.1 rfl ?_
          refine a_iconst (pc := 59) (v := 1) C dX6_readsLine_59 (by decide) ?_
          refine a_isub (pc := 60) C dX6_readsLine_60 ?_
          refine a_callV_I (pc := 61) (d' := 3) C dX6_readsLine_61 ml_X6_66 mc_X6_readNumber mv_X6_readNumber tx_31 rfl [.int (0 : Int32), .int ((a41.2.1 c1 0) - (1 : Int32))] rfl (Nat.le_of_ble_eq_true rfl) (Nat.le_of_ble_eq_true rfl) rfl (Nat.le_of_ble_eq_true rfl) (fun r M' h => c_X6_readNumber N (0 : Int32) ((a41.2.1 c1 0) - (1 : Int32))  _  r M' h) hf (fun v8 M9 hf => ?_)
          exact a_sub [2, 3, 4, 0] rfl (hk64 (v8, M9) hf)
        · refine a_iconst (pc := 49) (v := (-1)) C dX6_readsLine_49 (by decide) ?_
          refine a_goto (pc := 50) 64 C dX6_readsLine_50 (by decide) ?_
          exact a_sub [2, 3, 4, 0] rfl (hk64 ((-1 : Int32), a41.2) hf)
    · refine a_icmp_ne (pc := 23) 30 C dX6_readsLine_23 (by decide) hf (fun hf => ?_) (fun hf => ?_)
      · refine a_aload_n (pc := 30) C dX6_readsLine_30 1 rfl ?_
        refine a_iconst (pc := 31) (v := 0) C dX6_readsLine_31 (by decide) ?_
        refine a_aload_n (pc := 32) C dX6_readsLine_32 2 rfl ?_
        refine a_getI (pc := 33) C dX6_readsLine_33 fl_X6_64 hc1.1 rfl ?_
        refine a_iconst (pc := 36) (v := 1) C dX6_readsLine_36 (by decide) ?_
        refine a_isub (pc := 37) C dX6_readsLine_37 ?_
        refine a_callV_I (pc := 38) (d' := 3) C dX6_readsLine_38 ml_X6_66 mc_X6_readNumber mv_X6_readNumber tx_31 rfl [.int (0 : Int32), .int ((a20.2.1 c1 0) - (1 : Int32))] rfl (Nat.le_of_ble_eq_true rfl) (Nat.le_of_ble_eq_true rfl) rfl (Nat.le_of_ble_eq_true rfl) (fun r M' h => c_X6_readNumber N (0 : Int32) ((a20.2.1 c1 0) - (1 : Int32))  _  r M' h) hf (fun v11 M12 hf => ?_)
        exact a_sub [1, 2, 3, 0] rfl (hk41 (v11, M12) hf)
      · refine a_iconst (pc := 26) (v := (-1)) C dX6_readsLine_26 (by decide) ?_
        refine a_goto (pc := 27) 41 C dX6_readsLine_27 (by decide) ?_
        exact a_sub [1, 2, 3, 0] rfl (hk41 ((-1 : Int32), a20.2) hf)
  · refine a_icmp_ne (pc := 7) 14 C dX6_readsLine_7 (by decide) hf (fun hf => ?_) (fun hf => ?_)
    · refine a_aload_n (pc := 14) C dX6_readsLine_14 1 rfl ?_
      refine a_iconst (pc := 15) (v := 1) C dX6_readsLine_15 (by decide) ?_
      refine a_iconst (pc := 16) (v := 3) C dX6_readsLine_16 (by decide) ?_
      refine a_callV_I (pc := 17) (d' := 3) C dX6_readsLine_17 ml_X6_66 mc_X6_readNumber mv_X6_readNumber tx_31 rfl [.int (1 : Int32), .int (3 : Int32)] rfl (Nat.le_of_ble_eq_true rfl) (Nat.le_of_ble_eq_true rfl) rfl (Nat.le_of_ble_eq_true rfl) (fun r M' h => c_X6_readNumber N (1 : Int32) (3 : Int32)  _  r M' h) hf (fun v14 M15 hf => ?_)
      exact a_sub [1, 2, 0] rfl (hk20 (v14, M15) hf)
    · refine a_iconst (pc := 10) (v := (-1)) C dX6_readsLine_10 (by decide) ?_
      refine a_goto (pc := 11) 20 C dX6_readsLine_11 (by decide) ?_
      exact a_sub [1, 2, 0] rfl (hk20 ((-1 : Int32), M2) hf)
