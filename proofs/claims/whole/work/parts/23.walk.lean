theorem dX6_readsRound_0 : decode cX6_readsRound 0 = .ok (.aload_n 0, 1) := by decide +kernel
theorem dX6_readsRound_1 : decode cX6_readsRound 1 = .ok (.invokevirtual 74, 3) := by decide +kernel
theorem dX6_readsRound_4 : decode cX6_readsRound 4 = .ok (.istore_n 2, 1) := by decide +kernel
theorem dX6_readsRound_5 : decode cX6_readsRound 5 = .ok (.iload_n 2, 1) := by decide +kernel
theorem dX6_readsRound_6 : decode cX6_readsRound 6 = .ok (.iconst (-1), 1) := by decide +kernel
theorem dX6_readsRound_7 : decode cX6_readsRound 7 = .ok (.if_icmp .ne 7, 3) := by decide +kernel
theorem dX6_readsRound_10 : decode cX6_readsRound 10 = .ok (.iconst (-1), 1) := by decide +kernel
theorem dX6_readsRound_11 : decode cX6_readsRound 11 = .ok (.goto 9, 3) := by decide +kernel
theorem dX6_readsRound_14 : decode cX6_readsRound 14 = .ok (.aload_n 0, 1) := by decide +kernel
theorem dX6_readsRound_15 : decode cX6_readsRound 15 = .ok (.iconst 1, 1) := by decide +kernel
theorem dX6_readsRound_16 : decode cX6_readsRound 16 = .ok (.iconst 3, 1) := by decide +kernel
theorem dX6_readsRound_17 : decode cX6_readsRound 17 = .ok (.invokevirtual 66, 3) := by decide +kernel
theorem dX6_readsRound_20 : decode cX6_readsRound 20 = .ok (.istore_n 3, 1) := by decide +kernel
theorem dX6_readsRound_21 : decode cX6_readsRound 21 = .ok (.iload_n 3, 1) := by decide +kernel
theorem dX6_readsRound_22 : decode cX6_readsRound 22 = .ok (.iconst (-1), 1) := by decide +kernel
theorem dX6_readsRound_23 : decode cX6_readsRound 23 = .ok (.if_icmp .ne 7, 3) := by decide +kernel
theorem dX6_readsRound_26 : decode cX6_readsRound 26 = .ok (.iconst (-1), 1) := by decide +kernel
theorem dX6_readsRound_27 : decode cX6_readsRound 27 = .ok (.goto 14, 3) := by decide +kernel
theorem dX6_readsRound_30 : decode cX6_readsRound 30 = .ok (.aload_n 0, 1) := by decide +kernel
theorem dX6_readsRound_31 : decode cX6_readsRound 31 = .ok (.iconst 0, 1) := by decide +kernel
theorem dX6_readsRound_32 : decode cX6_readsRound 32 = .ok (.aload_n 1, 1) := by decide +kernel
theorem dX6_readsRound_33 : decode cX6_readsRound 33 = .ok (.getfield 64, 3) := by decide +kernel
theorem dX6_readsRound_36 : decode cX6_readsRound 36 = .ok (.iconst 1, 1) := by decide +kernel
theorem dX6_readsRound_37 : decode cX6_readsRound 37 = .ok (.isub, 1) := by decide +kernel
theorem dX6_readsRound_38 : decode cX6_readsRound 38 = .ok (.invokevirtual 66, 3) := by decide +kernel
theorem dX6_readsRound_41 : decode cX6_readsRound 41 = .ok (.istore 4, 2) := by decide +kernel
theorem dX6_readsRound_43 : decode cX6_readsRound 43 = .ok (.iload 4, 2) := by decide +kernel
theorem dX6_readsRound_45 : decode cX6_readsRound 45 = .ok (.iconst (-1), 1) := by decide +kernel
theorem dX6_readsRound_46 : decode cX6_readsRound 46 = .ok (.if_icmp .ne 7, 3) := by decide +kernel
theorem dX6_readsRound_49 : decode cX6_readsRound 49 = .ok (.iconst (-1), 1) := by decide +kernel
theorem dX6_readsRound_50 : decode cX6_readsRound 50 = .ok (.goto 17, 3) := by decide +kernel
theorem dX6_readsRound_53 : decode cX6_readsRound 53 = .ok (.aload_n 0, 1) := by decide +kernel
theorem dX6_readsRound_54 : decode cX6_readsRound 54 = .ok (.iload 4, 2) := by decide +kernel
theorem dX6_readsRound_56 : decode cX6_readsRound 56 = .ok (.iconst 1, 1) := by decide +kernel
theorem dX6_readsRound_57 : decode cX6_readsRound 57 = .ok (.iadd, 1) := by decide +kernel
theorem dX6_readsRound_58 : decode cX6_readsRound 58 = .ok (.aload_n 1, 1) := by decide +kernel
theorem dX6_readsRound_59 : decode cX6_readsRound 59 = .ok (.getfield 64, 3) := by decide +kernel
theorem dX6_readsRound_62 : decode cX6_readsRound 62 = .ok (.iconst 1, 1) := by decide +kernel
theorem dX6_readsRound_63 : decode cX6_readsRound 63 = .ok (.isub, 1) := by decide +kernel
theorem dX6_readsRound_64 : decode cX6_readsRound 64 = .ok (.invokevirtual 66, 3) := by decide +kernel
theorem dX6_readsRound_67 : decode cX6_readsRound 67 = .ok (.istore 5, 2) := by decide +kernel
theorem dX6_readsRound_69 : decode cX6_readsRound 69 = .ok (.iload 5, 2) := by decide +kernel
theorem dX6_readsRound_71 : decode cX6_readsRound 71 = .ok (.iconst (-1), 1) := by decide +kernel
theorem dX6_readsRound_72 : decode cX6_readsRound 72 = .ok (.if_icmp .ne 5, 3) := by decide +kernel
theorem dX6_readsRound_75 : decode cX6_readsRound 75 = .ok (.iconst 0, 1) := by decide +kernel
theorem dX6_readsRound_76 : decode cX6_readsRound 76 = .ok (.ireturn, 1) := by decide +kernel
theorem dX6_readsRound_77 : decode cX6_readsRound 77 = .ok (.iload 4, 2) := by decide +kernel
theorem dX6_readsRound_79 : decode cX6_readsRound 79 = .ok (.istore 6, 2) := by decide +kernel
theorem dX6_readsRound_81 : decode cX6_readsRound 81 = .ok (.iload 6, 2) := by decide +kernel
theorem dX6_readsRound_83 : decode cX6_readsRound 83 = .ok (.iload 5, 2) := by decide +kernel
theorem dX6_readsRound_85 : decode cX6_readsRound 85 = .ok (.if_icmp .ge 21, 3) := by decide +kernel
theorem dX6_readsRound_88 : decode cX6_readsRound 88 = .ok (.aload_n 1, 1) := by decide +kernel
theorem dX6_readsRound_89 : decode cX6_readsRound 89 = .ok (.iload_n 2, 1) := by decide +kernel
theorem dX6_readsRound_90 : decode cX6_readsRound 90 = .ok (.iload_n 3, 1) := by decide +kernel
theorem dX6_readsRound_91 : decode cX6_readsRound 91 = .ok (.iload 6, 2) := by decide +kernel
theorem dX6_readsRound_93 : decode cX6_readsRound 93 = .ok (.iload 6, 2) := by decide +kernel
theorem dX6_readsRound_95 : decode cX6_readsRound 95 = .ok (.iconst 1, 1) := by decide +kernel
theorem dX6_readsRound_96 : decode cX6_readsRound 96 = .ok (.iadd, 1) := by decide +kernel
theorem dX6_readsRound_97 : decode cX6_readsRound 97 = .ok (.invokestatic 86, 3) := by decide +kernel
theorem dX6_readsRound_100 : decode cX6_readsRound 100 = .ok (.iinc 6 1, 3) := by decide +kernel
theorem dX6_readsRound_103 : decode cX6_readsRound 103 = .ok (.goto (-22), 3) := by decide +kernel
theorem dX6_readsRound_106 : decode cX6_readsRound 106 = .ok (.aload_n 1, 1) := by decide +kernel
theorem dX6_readsRound_107 : decode cX6_readsRound 107 = .ok (.iload_n 2, 1) := by decide +kernel
theorem dX6_readsRound_108 : decode cX6_readsRound 108 = .ok (.iload_n 3, 1) := by decide +kernel
theorem dX6_readsRound_109 : decode cX6_readsRound 109 = .ok (.iload 4, 2) := by decide +kernel
theorem dX6_readsRound_111 : decode cX6_readsRound 111 = .ok (.iload 5, 2) := by decide +kernel
theorem dX6_readsRound_113 : decode cX6_readsRound 113 = .ok (.invokestatic 86, 3) := by decide +kernel
theorem dX6_readsRound_116 : decode cX6_readsRound 116 = .ok (.iconst 1, 1) := by decide +kernel
theorem dX6_readsRound_117 : decode cX6_readsRound 117 = .ok (.ireturn, 1) := by decide +kernel
def f_X6_readsRound (N : Nat) (c1 : Nat) (M : Mem) : Option (Int32 × Mem) := bd (f_X6_readKind N  M) (fun w3 => jn (fun (a20 : Int32 × Mem) => jn (fun (a41 : Int32 × Mem) => jn (fun (a67 : Int32 × Mem) => if a67.1 = (-1 : Int32) then (some ((0 : Int32), a67.2)) else (lp (fun (k81 : (Int32 × Mem) → Option (Int32 × Mem)) (a81 : Int32 × Mem) => if a67.1 ≤ a81.1 then (bd (f_X6_joinUnlessJoined N c1 w3.1 a20.1 a41.1 a67.1 a81.2) (fun M5 => some ((1 : Int32), M5))) else (bd (f_X6_joinUnlessJoined N c1 w3.1 a20.1 a81.1 (a81.1 + (1 : Int32)) a81.2) (fun M7 => nm (a81.1 + (1 : Int32)) (fun v8 => k81 (v8, M7))))) N (a41.1, a67.2))) (fun (k67 : (Int32 × Mem) → Option (Int32 × Mem)) => if a41.1 = (-1 : Int32) then (k67 ((-1 : Int32), a41.2)) else (bd (f_X6_readNumber N (a41.1 + (1 : Int32)) ((a41.2.1 c1 0) - (1 : Int32)) a41.2) (fun w11 => k67 (w11.1, w11.2))))) (fun (k41 : (Int32 × Mem) → Option (Int32 × Mem)) => if a20.1 = (-1 : Int32) then (k41 ((-1 : Int32), a20.2)) else (bd (f_X6_readNumber N (0 : Int32) ((a20.2.1 c1 0) - (1 : Int32)) a20.2) (fun w14 => k41 (w14.1, w14.2))))) (fun (k20 : (Int32 × Mem) → Option (Int32 × Mem)) => if w3.1 = (-1 : Int32) then (k20 ((-1 : Int32), w3.2)) else (bd (f_X6_readNumber N (1 : Int32) (3 : Int32) w3.2) (fun w17 => k20 (w17.1, w17.2)))))
set_option maxRecDepth 100000 in
set_option maxHeartbeats 4000000 in
theorem c_X6_readsRound {l : Launch} {D : va_G} {ac : Nat → ClassId} {A : Nat → Prop} {ad : Nat → Nat} {rest : va_W} (N : Nat) (c1 : Nat) (hc1 : NetAt tabX c1) (M : Mem) (r0 : Int32) (M0 : Mem) (hf : f_X6_readsRound N c1 M = some (r0, M0)) : CtI l D ac A tabX ad rest yX6_readsRound cX6_readsRound 7 .boolean 8 [.ref (ad 31), .ref (ad c1)] M r0 M0 := by
  refine ct_ofI (own := RX6) (by decide +kernel) rfl (Nat.le_of_ble_eq_true rfl) ?_
  intro p e s m args below meth c C
  unfold f_X6_readsRound at hf
  refine a_L (L' := [(0, .ref (ad 31)), (1, .ref (ad c1))]) rfl ?_
  refine a_aload_n (pc := 0) C dX6_readsRound_0 0 rfl ?_
  refine a_callV_I (pc := 1) (d' := 7) C dX6_readsRound_1 ml_X6_74 mc_X6_readKind mv_X6_readKind tx_31 rfl [] rfl (Nat.le_of_ble_eq_true rfl) (Nat.le_of_ble_eq_true rfl) rfl (Nat.le_of_ble_eq_true rfl) (fun r M' h => c_X6_readKind N   _  r M' h) hf (fun v1 M2 hf => ?_)
  refine a_istore_n (pc := 4) [(2, .int v1), (0, .ref (ad 31)), (1, .ref (ad c1))] C dX6_readsRound_4 (by decide) rfl ?_
  refine a_iload_n (pc := 5) C dX6_readsRound_5 0 rfl ?_
  refine a_iconst (pc := 6) (v := (-1)) C dX6_readsRound_6 (by decide) ?_
  refine a_jn 20 (fun a20 : Int32 × Mem => [(0, .ref (ad 31)), (1, .ref (ad c1)), (2, .int v1)]) (fun a20 : Int32 × Mem => [.int a20.1]) (fun a20 : Int32 × Mem => a20.2) hf (fun a20 hf => ?_) (fun k20 hk20 hf => ?_)
  · refine a_istore_n (pc := 20) [(3, .int a20.1), (0, .ref (ad 31)), (1, .ref (ad c1)), (2, .int v1)] C dX6_readsRound_20 (by decide) rfl ?_
    refine a_iload_n (pc := 21) C dX6_readsRound_21 0 rfl ?_
    refine a_iconst (pc := 22) (v := (-1)) C dX6_readsRound_22 (by decide) ?_
    refine a_jn 41 (fun a41 : Int32 × Mem => [(0, .ref (ad 31)), (1, .ref (ad c1)), (2, .int v1), (3, .int a20.1)]) (fun a41 : Int32 × Mem => [.int a41.1]) (fun a41 : Int32 × Mem => a41.2) hf (fun a41 hf => ?_) (fun k41 hk41 hf => ?_)
    · refine a_istore (pc := 41) [(4, .int a41.1), (0, .ref (ad 31)), (1, .ref (ad c1)), (2, .int v1), (3, .int a20.1)] C dX6_readsRound_41 (by decide) rfl ?_
      refine a_iload (pc := 43) C dX6_readsRound_43 0 rfl ?_
      refine a_iconst (pc := 45) (v := (-1)) C dX6_readsRound_45 (by decide) ?_
      refine a_jn 67 (fun a67 : Int32 × Mem => [(1, .ref (ad c1)), (2, .int v1), (3, .int a20.1), (4, .int a41.1)]) (fun a67 : Int32 × Mem => [.int a67.1]) (fun a67 : Int32 × Mem => a67.2) hf (fun a67 hf => ?_) (fun k67 hk67 hf => ?_)
      · refine a_istore (pc := 67) [(5, .int a67.1), (1, .ref (ad c1)), (2, .int v1), (3, .int a20.1), (4, .int a41.1)] C dX6_readsRound_67 (by decide) rfl ?_
        refine a_iload (pc := 69) C dX6_readsRound_69 0 rfl ?_
        refine a_iconst (pc := 71) (v := (-1)) C dX6_readsRound_71 (by decide) ?_
        refine a_icmp_ne (pc := 72) 77 C dX6_readsRound_72 (by decide) hf (fun hf => ?_) (fun hf => ?_)
        · refine a_iload (pc := 77) C dX6_readsRound_77 4 rfl ?_
          refine a_istore (pc := 79) [(6, .int a41.1), (5, .int a67.1), (1, .ref (ad c1)), (2, .int v1), (3, .int a20.1), (4, .int a41.1)] C dX6_readsRound_79 (by decide) rfl ?_
          refine a_sub [2, 3, 4, 5, 1, 0] rfl ?_
          refine a_lp 81 (fun a81 : Int32 × Mem => [(1, .ref (ad c1)), (2, .int v1), (3, .int a20.1), (4, .int a41.1), (5, .int a67.1), (6, .int a81.1)]) (fun a81 : Int32 × Mem => []) (fun a81 : Int32 × Mem => a81.2) (fun k81 a81 hk81 hf => ?_) N (a41.1, a67.2) hf
          refine a_iload (pc := 81) C dX6_readsRound_81 5 rfl ?_
          refine a_iload (pc := 83) C dX6_readsRound_83 4 rfl ?_
          refine a_icmp_ge (pc := 85) 106 C dX6_readsRound_85 (by decide) hf (fun hf => ?_) (fun hf => ?_)
          · refine a_aload_n (pc := 106) C dX6_readsRound_106 0 rfl ?_
            refine a_iload_n (pc := 107) C dX6_readsRound_107 1 rfl ?_
            refine a_iload_n (pc := 108) C dX6_readsRound_108 2 rfl ?_
            refine a_iload (pc := 109) C dX6_readsRound_109 3 rfl ?_
            refine a_iload (pc := 111) C dX6_readsRound_111 4 rfl ?_
            refine a_callS_V (pc := 113) (d' := 3) C dX6_readsRound_113 ml_X6_86 mc_X6_joinUnlessJoined ms_X6_joinUnlessJoined [.ref (ad c1), .int v1, .int a20.1, .int a41.1, .int a67.1] rfl (Nat.le_of_ble_eq_true rfl) (Nat.le_of_ble_eq_true rfl) rfl (Nat.le_of_ble_eq_true rfl) (fun M' h => c_X6_joinUnlessJoined N c1 v1 a20.1 a41.1 a67.1 hc1 _  M' h) hf (fun M5 hf => ?_)
            refine a_iconst (pc := 116) (v := 1) C dX6_readsRound_116 (by decide) ?_
            exact a_zret (pc := 117) C dX6_readsRound_117 (Or.inr rfl) (so_1 hf) (so_2 hf)
          · refine a_aload_n (pc := 88) C dX6_readsRound_88 0 rfl ?_
            refine a_iload_n (pc := 89) C dX6_readsRound_89 1 rfl ?_
            refine a_iload_n (pc := 90) C dX6_readsRound_90 2 rfl ?_
            refine a_iload (pc := 91) C dX6_readsRound_91 5 rfl ?_
            refine a_iload (pc := 93) C dX6_readsRound_93 5 rfl ?_
            refine a_iconst (pc := 95) (v := 1) C dX6_readsRound_95 (by decide) ?_
            refine a_iadd (pc := 96) C dX6_readsRound_96 ?_
            refine a_callS_V (pc := 97) (d' := 3) C dX6_readsRound_97 ml_X6_86 mc_X6_joinUnlessJoined ms_X6_joinUnlessJoined [.ref (ad c1), .int v1, .int a20.1, .int a81.1, .int (a81.1 + (1 : Int32))] rfl (Nat.le_of_ble_eq_true rfl) (Nat.le_of_ble_eq_true rfl) rfl (Nat.le_of_ble_eq_true rfl) (fun M' h => c_X6_joinUnlessJoined N c1 v1 a20.1 a81.1 (a81.1 + (1 : Int32)) hc1 _  M' h) hf (fun M7 hf => ?_)
            refine a_iinc (pc := 100) (v := 1) (fun v8 => [(6, .int v8), (1, .ref (ad c1)), (2, .int v1), (3, .int a20.1), (4, .int a41.1), (5, .int a67.1)]) C dX6_readsRound_100 5 rfl (by decide) (by decide) (fun _ => rfl) hf (fun v8 hf => ?_)
            refine a_goto (pc := 103) 81 C dX6_readsRound_103 (by decide) ?_
            exact a_sub [1, 2, 3, 4, 5, 0] rfl (hk81 (v8, M7) hf)
        · refine a_iconst (pc := 75) (v := 0) C dX6_readsRound_75 (by decide) ?_
          exact a_zret (pc := 76) C dX6_readsRound_76 (Or.inl rfl) (so_1 hf) (so_2 hf)
      · refine a_icmp_ne (pc := 46) 53 C dX6_readsRound_46 (by decide) hf (fun hf => ?_) (fun hf => ?_)
        · refine a_aload_n (pc := 53) C dX6_readsRound_53 1 rfl ?_
          refine a_iload (pc := 54) C dX6_readsRound_54 0 rfl ?_
          refine a_iconst (pc := 56) (v := 1) C dX6_readsRound_56 (by decide) ?_
          refine a_iadd (pc := 57) C dX6_readsRound_57 ?_
          refine a_aload_n (pc := 58) C dX6_readsRound_58 2 rfl ?_
          refine a_getI (pc := 59) C dX6_readsRound_59 fl_X6_64 hc1.1 rfl ?_
          refine a_iconst (pc := 62) (v := 1) C dX6_readsRound_62 (by decide) ?_
          refine a_isub (pc := 63) C dX6_readsRound_63 ?_
          refine a_callV_I (pc := 64) (d' := 3) C dX6_readsRound_64 ml_X6_66 mc_X6_readNumber mv_X6_readNumber tx_31 rfl [.int (a41.1 + (1 : Int32)), .int ((a41.2.1 c1 0) - (1 : Int32))] rfl (Nat.le_of_ble_eq_true rfl) (Nat.le_of_ble_eq_true rfl) rfl (Nat.le_of_ble_eq_true rfl) (fun r M' h => c_X6_readNumber N (a41.1 + (1 : Int32)) ((a41.2.1 c1 0) - (1 : Int32))  _  r M' h) hf (fun v9 M10 hf => ?_)
          exact a_sub [2, 3, 4, 0] rfl (hk67 (v9, M10) hf)
        · refine a_iconst (pc := 49) (v := (-1)) C dX6_readsRound_49 (by decide) ?_
          refine a_goto (pc := 50) 67 C dX6_readsRound_50 (by decide) ?_
          exact a_sub [2, 3, 4, 0] rfl (hk67 ((-1 : Int32), a41.2) hf)
    · refine a_icmp_ne (pc := 23) 30 C dX6_readsRound_23 (by decide) hf (fun hf => ?_) (fun hf => ?_)
      · refine a_aload_n (pc := 30) C dX6_readsRound_30 1 rfl ?_
        refine a_iconst (pc := 31) (v := 0) C dX6_readsRound_31 (by decide) ?_
        refine a_aload_n (pc := 32) C dX6_readsRound_32 2 rfl ?_
        refine a_getI (pc := 33) C dX6_readsRound_33 fl_X6_64 hc1.1 rfl ?_
        refine a_iconst (pc := 36) (v := 1) C dX6_readsRound_36 (by decide) ?_
        refine a_isub (pc := 37) C dX6_readsRound_37 ?_
        refine a_callV_I (pc := 38) (d' := 3) C dX6_readsRound_38 ml_X6_66 mc_X6_readNumber mv_X6_readNumber tx_31 rfl [.int (0 : Int32), .int ((a20.2.1 c1 0) - (1 : Int32))] rfl (Nat.le_of_ble_eq_true rfl) (Nat.le_of_ble_eq_true rfl) rfl (Nat.le_of_ble_eq_true rfl) (fun r M' h => c_X6_readNumber N (0 : Int32) ((a20.2.1 c1 0) - (1 : Int32))  _  r M' h) hf (fun v12 M13 hf => ?_)
        exact a_sub [1, 2, 3, 0] rfl (hk41 (v12, M13) hf)
      · refine a_iconst (pc := 26) (v := (-1)) C dX6_readsRound_26 (by decide) ?_
        refine a_goto (pc := 27) 41 C dX6_readsRound_27 (by decide) ?_
        exact a_sub [1, 2, 3, 0] rfl (hk41 ((-1 : Int32), a20.2) hf)
  · refine a_icmp_ne (pc := 7) 14 C dX6_readsRound_7 (by decide) hf (fun hf => ?_) (fun hf => ?_)
    · refine a_aload_n (pc := 14) C dX6_readsRound_14 1 rfl ?_
      refine a_iconst (pc := 15) (v := 1) C dX6_readsRound_15 (by decide) ?_
      refine a_iconst (pc := 16) (v := 3) C dX6_readsRound_16 (by decide) ?_
      refine a_callV_I (pc := 17) (d' := 3) C dX6_readsRound_17 ml_X6_66 mc_X6_readNumber mv_X6_readNumber tx_31 rfl [.int (1 : Int32), .int (3 : Int32)] rfl (Nat.le_of_ble_eq_true rfl) (Nat.le_of_ble_eq_true rfl) rfl (Nat.le_of_ble_eq_true rfl) (fun r M' h => c_X6_readNumber N (1 : Int32) (3 : Int32)  _  r M' h) hf (fun v15 M16 hf => ?_)
      exact a_sub [1, 2, 0] rfl (hk20 (v15, M16) hf)
    · refine a_iconst (pc := 10) (v := (-1)) C dX6_readsRound_10 (by decide) ?_
      refine a_goto (pc := 11) 20 C dX6_readsRound_11 (by decide) ?_
      exact a_sub [1, 2, 0] rfl (hk20 ((-1 : Int32), M2) hf)
theorem dX8_text_0 : decode cX8_text 0 = .ok (.aload_n 0, 1) := by decide +kernel
theorem dX8_text_1 : decode cX8_text 1 = .ok (.iconst 1, 1) := by decide +kernel
theorem dX8_text_2 : decode cX8_text 2 = .ok (.invokevirtual 338, 3) := by decide +kernel
theorem dX8_text_5 : decode cX8_text 5 = .ok (.aload_n 0, 1) := by decide +kernel
theorem dX8_text_6 : decode cX8_text 6 = .ok (.invokevirtual 341, 3) := by decide +kernel
theorem dX8_text_9 : decode cX8_text 9 = .ok (.istore_n 1, 1) := by decide +kernel
theorem dX8_text_10 : decode cX8_text 10 = .ok (.aload_n 0, 1) := by decide +kernel
theorem dX8_text_11 : decode cX8_text 11 = .ok (.iconst 0, 1) := by decide +kernel
theorem dX8_text_12 : decode cX8_text 12 = .ok (.putfield 145, 3) := by decide +kernel
theorem dX8_text_15 : decode cX8_text 15 = .ok (.iload_n 1, 1) := by decide +kernel
theorem dX8_text_16 : decode cX8_text 16 = .ok (.iconst (-1), 1) := by decide +kernel
theorem dX8_text_17 : decode cX8_text 17 = .ok (.if_icmp .eq 5, 3) := by decide +kernel
theorem dX8_text_20 : decode cX8_text 20 = .ok (.iload_n 1, 1) := by decide +kernel
theorem dX8_text_21 : decode cX8_text 21 = .ok (.ireturn, 1) := by decide +kernel
theorem dX8_text_22 : decode cX8_text 22 = .ok (.aload_n 0, 1) := by decide +kernel
theorem dX8_text_23 : decode cX8_text 23 = .ok (.iconst 1, 1) := by decide +kernel
theorem dX8_text_24 : decode cX8_text 24 = .ok (.invokevirtual 344, 3) := by decide +kernel
theorem dX8_text_27 : decode cX8_text 27 = .ok (.bipush (-100), 2) := by decide +kernel
theorem dX8_text_29 : decode cX8_text 29 = .ok (.aload_n 0, 1) := by decide +kernel
theorem dX8_text_30 : decode cX8_text 30 = .ok (.getfield 308, 3) := by decide +kernel
theorem dX8_text_33 : decode cX8_text 33 = .ok (.isub, 1) := by decide +kernel
theorem dX8_text_34 : decode cX8_text 34 = .ok (.ireturn, 1) := by decide +kernel
def f_X8_text (N : Nat)  (M : Mem) : Option (Int32 × Mem) := bd (f_X8_keeps N (1 : Int32) M) (fun M2 => bd (f_X8_itemsRead N  M2) (fun w5 => nm (setI w5.2 0 31 (0 : Int32)) (fun M6 => if w5.1 = (-1 : Int32) then (bd (f_X8_putsBack N (1 : Int32) M6) (fun M8 => some (((-100 : Int32) - (M8.1 0 32)), M8))) else (some (w5.1, M6)))))
set_option maxRecDepth 100000 in
set_option maxHeartbeats 4000000 in
theorem c_X8_text {l : Launch} {D : va_G} {ac : Nat → ClassId} {A : Nat → Prop} {ad : Nat → Nat} {rest : va_W} (N : Nat)   (M : Mem) (r0 : Int32) (M0 : Mem) (hf : f_X8_text N  M = some (r0, M0)) : CtI l D ac A tabM ad rest yX8_text cX8_text 2 .int 8 [.ref (ad 0)] M r0 M0 := by
  refine ct_ofI (own := RX8) (by decide +kernel) rfl (Nat.le_of_ble_eq_true rfl) ?_
  intro p e s m args below meth c C
  unfold f_X8_text at hf
  refine a_L (L' := [(0, .ref (ad 0))]) rfl ?_
  refine a_aload_n (pc := 0) C dX8_text_0 0 rfl ?_
  refine a_iconst (pc := 1) (v := 1) C dX8_text_1 (by decide) ?_
  refine a_callV_V (pc := 2) (d' := 1) C dX8_text_2 ml_X8_338 mc_X8_keeps mv_X8_keeps tm_0 rfl [.int (1 : Int32)] rfl (Nat.le_of_ble_eq_true rfl) (Nat.le_of_ble_eq_true rfl) rfl (Nat.le_of_ble_eq_true rfl) (fun M' h => c_X8_keeps N (1 : Int32)  _  M' h) hf (fun M2 hf => ?_)
  refine a_aload_n (pc := 5) C dX8_text_5 0 rfl ?_
  refine a_callV_I (pc := 6) (d' := 7) C dX8_text_6 ml_X8_341 mc_X8_itemsRead mv_X8_itemsRead tm_0 rfl [] rfl (Nat.le_of_ble_eq_true rfl) (Nat.le_of_ble_eq_true rfl) rfl (Nat.le_of_ble_eq_true rfl) (fun r M' h => c_X8_itemsRead N   _  r M' h) hf (fun v3 M4 hf => ?_)
  refine a_istore_n (pc := 9) [(1, .int v3), (0, .ref (ad 0))] C dX8_text_9 (by decide) rfl ?_
  refine a_aload_n (pc := 10) C dX8_text_10 1 rfl ?_
  refine a_iconst (pc := 11) (v := 0) C dX8_text_11 (by decide) ?_
  refine a_putI (pc := 12) C dX8_text_12 fl_X8_145 tm_0 rfl hf (fun M6 hf => ?_)
  refine a_iload_n (pc := 15) C dX8_text_15 0 rfl ?_
  refine a_iconst (pc := 16) (v := (-1)) C dX8_text_16 (by decide) ?_
  refine a_icmp_eq (pc := 17) 22 C dX8_text_17 (by decide) hf (fun hf => ?_) (fun hf => ?_)
  · refine a_aload_n (pc := 22) C dX8_text_22 1 rfl ?_
    refine a_iconst (pc := 23) (v := 1) C dX8_text_23 (by decide) ?_
    refine a_callV_V (pc := 24) (d' := 1) C dX8_text_24 ml_X8_344 mc_X8_putsBack mv_X8_putsBack tm_0 rfl [.int (1 : Int32)] rfl (Nat.le_of_ble_eq_true rfl) (Nat.le_of_ble_eq_true rfl) rfl (Nat.le_of_ble_eq_true rfl) (fun M' h => c_X8_putsBack N (1 : Int32)  _  M' h) hf (fun M8 hf => ?_)
    refine a_bipush (pc := 27) (v := (-100)) C dX8_text_27 (by decide) ?_
    refine a_aload_n (pc := 29) C dX8_text_29 1 rfl ?_
    refine a_getI (pc := 30) C dX8_text_30 fl_X8_308 tm_0 rfl ?_
    refine a_isub (pc := 33) C dX8_text_33 ?_
    exact a_iret (pc := 34) C dX8_text_34 (so_1 hf) (so_2 hf)
  · refine a_iload_n (pc := 20) C dX8_text_20 0 rfl ?_
    exact a_iret (pc := 21) C dX8_text_21 (so_1 hf) (so_2 hf)
theorem dX6_readsItem_0 : decode cX6_readsItem 0 = .ok (.aload_n 0, 1) := by decide +kernel
theorem dX6_readsItem_1 : decode cX6_readsItem 1 = .ok (.ldc 35, 2) := by decide +kernel
theorem dX6_readsItem_3 : decode cX6_readsItem 3 = .ok (.invokevirtual 37, 3) := by decide +kernel
theorem dX6_readsItem_6 : decode cX6_readsItem 6 = .ok (.ifCond .eq 9, 3) := by decide +kernel
theorem dX6_readsItem_9 : decode cX6_readsItem 9 = .ok (.aload_n 0, 1) := by decide +kernel
theorem dX6_readsItem_10 : decode cX6_readsItem 10 = .ok (.aload_n 1, 1) := by decide +kernel
theorem dX6_readsItem_11 : decode cX6_readsItem 11 = .ok (.invokevirtual 41, 3) := by decide +kernel
theorem dX6_readsItem_14 : decode cX6_readsItem 14 = .ok (.ireturn, 1) := by decide +kernel
theorem dX6_readsItem_15 : decode cX6_readsItem 15 = .ok (.aload_n 0, 1) := by decide +kernel
theorem dX6_readsItem_16 : decode cX6_readsItem 16 = .ok (.ldc 44, 2) := by decide +kernel
theorem dX6_readsItem_18 : decode cX6_readsItem 18 = .ok (.invokevirtual 37, 3) := by decide +kernel
theorem dX6_readsItem_21 : decode cX6_readsItem 21 = .ok (.ifCond .eq 26, 3) := by decide +kernel
theorem dX6_readsItem_24 : decode cX6_readsItem 24 = .ok (.aload_n 1, 1) := by decide +kernel
theorem dX6_readsItem_25 : decode cX6_readsItem 25 = .ok (.getfield 46, 3) := by decide +kernel
theorem dX6_readsItem_28 : decode cX6_readsItem 28 = .ok (.bipush 10, 2) := by decide +kernel
theorem dX6_readsItem_30 : decode cX6_readsItem 30 = .ok (.if_icmp .ge 15, 3) := by decide +kernel
theorem dX6_readsItem_33 : decode cX6_readsItem 33 = .ok (.aload_n 0, 1) := by decide +kernel
theorem dX6_readsItem_34 : decode cX6_readsItem 34 = .ok (.aload_n 1, 1) := by decide +kernel
theorem dX6_readsItem_35 : decode cX6_readsItem 35 = .ok (.invokevirtual 51, 3) := by decide +kernel
theorem dX6_readsItem_38 : decode cX6_readsItem 38 = .ok (.ifCond .eq 7, 3) := by decide +kernel
theorem dX6_readsItem_41 : decode cX6_readsItem 41 = .ok (.iconst 1, 1) := by decide +kernel
theorem dX6_readsItem_42 : decode cX6_readsItem 42 = .ok (.goto 4, 3) := by decide +kernel
theorem dX6_readsItem_45 : decode cX6_readsItem 45 = .ok (.iconst 0, 1) := by decide +kernel
theorem dX6_readsItem_46 : decode cX6_readsItem 46 = .ok (.ireturn, 1) := by decide +kernel
theorem dX6_readsItem_47 : decode cX6_readsItem 47 = .ok (.aload_n 0, 1) := by decide +kernel
theorem dX6_readsItem_48 : decode cX6_readsItem 48 = .ok (.ldc 54, 2) := by decide +kernel
theorem dX6_readsItem_50 : decode cX6_readsItem 50 = .ok (.invokevirtual 37, 3) := by decide +kernel
theorem dX6_readsItem_53 : decode cX6_readsItem 53 = .ok (.ifCond .eq 9, 3) := by decide +kernel
theorem dX6_readsItem_56 : decode cX6_readsItem 56 = .ok (.aload_n 0, 1) := by decide +kernel
theorem dX6_readsItem_57 : decode cX6_readsItem 57 = .ok (.aload_n 1, 1) := by decide +kernel
theorem dX6_readsItem_58 : decode cX6_readsItem 58 = .ok (.invokevirtual 56, 3) := by decide +kernel
theorem dX6_readsItem_61 : decode cX6_readsItem 61 = .ok (.ireturn, 1) := by decide +kernel
theorem dX6_readsItem_62 : decode cX6_readsItem 62 = .ok (.aload_n 0, 1) := by decide +kernel
theorem dX6_readsItem_63 : decode cX6_readsItem 63 = .ok (.ldc 59, 2) := by decide +kernel
theorem dX6_readsItem_65 : decode cX6_readsItem 65 = .ok (.invokevirtual 37, 3) := by decide +kernel
theorem dX6_readsItem_68 : decode cX6_readsItem 68 = .ok (.ifCond .eq 15, 3) := by decide +kernel
theorem dX6_readsItem_71 : decode cX6_readsItem 71 = .ok (.aload_n 0, 1) := by decide +kernel
theorem dX6_readsItem_72 : decode cX6_readsItem 72 = .ok (.aload_n 1, 1) := by decide +kernel
theorem dX6_readsItem_73 : decode cX6_readsItem 73 = .ok (.invokevirtual 61, 3) := by decide +kernel
theorem dX6_readsItem_76 : decode cX6_readsItem 76 = .ok (.ifCond .eq 7, 3) := by decide +kernel
theorem dX6_readsItem_79 : decode cX6_readsItem 79 = .ok (.iconst 1, 1) := by decide +kernel
theorem dX6_readsItem_80 : decode cX6_readsItem 80 = .ok (.goto 4, 3) := by decide +kernel
theorem dX6_readsItem_83 : decode cX6_readsItem 83 = .ok (.iconst 0, 1) := by decide +kernel
theorem dX6_readsItem_84 : decode cX6_readsItem 84 = .ok (.ireturn, 1) := by decide +kernel
def f_X6_readsItem (N : Nat) (c1 : Nat) (M : Mem) : Option (Int32 × Mem) := bd (f_X6_isWord N 0 M) (fun v1 => if v1 = 0 then (bd (f_X6_isWord N 1 M) (fun v3 => if v3 = 0 then (bd (f_X6_isWord N 2 M) (fun v5 => if v5 = 0 then (bd (f_X6_isWord N 3 M) (fun v7 => jn (fun (a83 : Mem) => some ((0 : Int32), a83)) (fun (k83 : Mem → Option (Int32 × Mem)) => if v7 = 0 then (k83 M) else (bd (f_X6_readsList N c1 M) (fun w11 => if w11.1 = 0 then (k83 w11.2) else (some ((1 : Int32), w11.2))))))) else (bd (f_X6_readsRound N c1 M) (fun w14 => ck (w14.1 = 0 ∨ w14.1 = 1) (some (w14.1, w14.2)))))) else (jn (fun (a45 : Mem) => some ((0 : Int32), a45)) (fun (k45 : Mem → Option (Int32 × Mem)) => if (10 : Int32) ≤ (M.1 c1 1) then (k45 M) else (bd (f_X6_readsLine N c1 M) (fun w17 => if w17.1 = 0 then (k45 w17.2) else (some ((1 : Int32), w17.2)))))))) else (bd (f_X6_readsPoints N c1 M) (fun w20 => ck (w20.1 = 0 ∨ w20.1 = 1) (some (w20.1, w20.2)))))
set_option maxRecDepth 100000 in
set_option maxHeartbeats 4000000 in
theorem c_X6_readsItem {l : Launch} {D : va_G} {ac : Nat → ClassId} {A : Nat → Prop} {ad : Nat → Nat} {rest : va_W} (N : Nat) (c1 : Nat) (hc1 : NetAt tabX c1) (M : Mem) (r0 : Int32) (M0 : Mem) (hf : f_X6_readsItem N c1 M = some (r0, M0)) : CtI l D ac A tabX ad rest yX6_readsItem cX6_readsItem 2 .boolean 9 [.ref (ad 31), .ref (ad c1)] M r0 M0 := by
  refine ct_ofI (own := RX6) (by decide +kernel) rfl (Nat.le_of_ble_eq_true rfl) ?_
  intro p e s m args below meth c C
  unfold f_X6_readsItem at hf
  refine a_L (L' := [(0, .ref (ad 31)), (1, .ref (ad c1))]) rfl ?_
  refine a_aload_n (pc := 0) C dX6_readsItem_0 0 rfl ?_
  refine a_ldcS (pc := 1) (i := 0) C dX6_readsItem_1 (by decide) rfl ?_
  refine a_callV_Ir (pc := 3) (d' := 6) C dX6_readsItem_3 ml_X6_37 mc_X6_isWord mv_X6_isWord tx_31 rfl [.ref (ad (1000 + 0))] rfl (Nat.le_of_ble_eq_true rfl) (Nat.le_of_ble_eq_true rfl) rfl (Nat.le_of_ble_eq_true rfl) (fun r h => c_X6_isWord N 0 (show 0 < 9 by decide) _  r h) hf (fun v1 hf => ?_)
  refine a_if_eq (pc := 6) 15 C dX6_readsItem_6 (by decide) hf (fun hf => ?_) (fun hf => ?_)
  · refine a_aload_n (pc := 15) C dX6_readsItem_15 0 rfl ?_
    refine a_ldcS (pc := 16) (i := 1) C dX6_readsItem_16 (by decide) rfl ?_
    refine a_callV_Ir (pc := 18) (d' := 6) C dX6_readsItem_18 ml_X6_37 mc_X6_isWord mv_X6_isWord tx_31 rfl [.ref (ad (1000 + 1))] rfl (Nat.le_of_ble_eq_true rfl) (Nat.le_of_ble_eq_true rfl) rfl (Nat.le_of_ble_eq_true rfl) (fun r h => c_X6_isWord N 1 (show 1 < 9 by decide) _  r h) hf (fun v3 hf => ?_)
    refine a_if_eq (pc := 21) 47 C dX6_readsItem_21 (by decide) hf (fun hf => ?_) (fun hf => ?_)
    · refine a_aload_n (pc := 47) C dX6_readsItem_47 0 rfl ?_
      refine a_ldcS (pc := 48) (i := 2) C dX6_readsItem_48 (by decide) rfl ?_
      refine a_callV_Ir (pc := 50) (d' := 6) C dX6_readsItem_50 ml_X6_37 mc_X6_isWord mv_X6_isWord tx_31 rfl [.ref (ad (1000 + 2))] rfl (Nat.le_of_ble_eq_true rfl) (Nat.le_of_ble_eq_true rfl) rfl (Nat.le_of_ble_eq_true rfl) (fun r h => c_X6_isWord N 2 (show 2 < 9 by decide) _  r h) hf (fun v5 hf => ?_)
      refine a_if_eq (pc := 53) 62 C dX6_readsItem_53 (by decide) hf (fun hf => ?_) (fun hf => ?_)
      · refine a_aload_n (pc := 62) C dX6_readsItem_62 0 rfl ?_
        refine a_ldcS (pc := 63) (i := 3) C dX6_readsItem_63 (by decide) rfl ?_
        refine a_callV_Ir (pc := 65) (d' := 6) C dX6_readsItem_65 ml_X6_37 mc_X6_isWord mv_X6_isWord tx_31 rfl [.ref (ad (1000 + 3))] rfl (Nat.le_of_ble_eq_true rfl) (Nat.le_of_ble_eq_true rfl) rfl (Nat.le_of_ble_eq_true rfl) (fun r h => c_X6_isWord N 3 (show 3 < 9 by decide) _  r h) hf (fun v7 hf => ?_)
        refine a_jn 83 (fun a83 : Mem => []) (fun a83 : Mem => []) (fun a83 : Mem => a83) hf (fun a83 hf => ?_) (fun k83 hk83 hf => ?_)
        · refine a_iconst (pc := 83) (v := 0) C dX6_readsItem_83 (by decide) ?_
          exact a_zret (pc := 84) C dX6_readsItem_84 (Or.inl rfl) (so_1 hf) (so_2 hf)
        · refine a_if_eq (pc := 68) 83 C dX6_readsItem_68 (by decide) hf (fun hf => ?_) (fun hf => ?_)
          · exact a_sub [] rfl (hk83 M hf)
          · refine a_aload_n (pc := 71) C dX6_readsItem_71 0 rfl ?_
            refine a_aload_n (pc := 72) C dX6_readsItem_72 1 rfl ?_
            refine a_callV_I (pc := 73) (d' := 4) C dX6_readsItem_73 ml_X6_61 mc_X6_readsList mv_X6_readsList tx_31 rfl [.ref (ad c1)] rfl (Nat.le_of_ble_eq_true rfl) (Nat.le_of_ble_eq_true rfl) rfl (Nat.le_of_ble_eq_true rfl) (fun r M' h => c_X6_readsList N c1 hc1 _  r M' h) hf (fun v9 M10 hf => ?_)
            refine a_if_eq (pc := 76) 83 C dX6_readsItem_76 (by decide) hf (fun hf => ?_) (fun hf => ?_)
            · exact a_sub [] rfl (hk83 M10 hf)
            · refine a_iconst (pc := 79) (v := 1) C dX6_readsItem_79 (by decide) ?_
              refine a_goto (pc := 80) 84 C dX6_readsItem_80 (by decide) ?_
              exact a_zret (pc := 84) C dX6_readsItem_84 (Or.inr rfl) (so_1 hf) (so_2 hf)
      · refine a_aload_n (pc := 56) C dX6_readsItem_56 0 rfl ?_
        refine a_aload_n (pc := 57) C dX6_readsItem_57 1 rfl ?_
        refine a_callV_I (pc := 58) (d' := 8) C dX6_readsItem_58 ml_X6_56 mc_X6_readsRound mv_X6_readsRound tx_31 rfl [.ref (ad c1)] rfl (Nat.le_of_ble_eq_true rfl) (Nat.le_of_ble_eq_true rfl) rfl (Nat.le_of_ble_eq_true rfl) (fun r M' h => c_X6_readsRound N c1 hc1 _  r M' h) hf (fun v12 M13 hf => ?_)
        exact a_zret (pc := 61) C dX6_readsItem_61 (ck_some hf).1 (so_1 (ck_some hf).2) (so_2 (ck_some hf).2)
    · refine a_aload_n (pc := 24) C dX6_readsItem_24 1 rfl ?_
      refine a_getI (pc := 25) C dX6_readsItem_25 fl_X6_46 hc1.1 rfl ?_
      refine a_bipush (pc := 28) (v := 10) C dX6_readsItem_28 (by decide) ?_
      refine a_jn 45 (fun a45 : Mem => []) (fun a45 : Mem => []) (fun a45 : Mem => a45) hf (fun a45 hf => ?_) (fun k45 hk45 hf => ?_)
      · refine a_iconst (pc := 45) (v := 0) C dX6_readsItem_45 (by decide) ?_
        exact a_zret (pc := 46) C dX6_readsItem_46 (Or.inl rfl) (so_1 hf) (so_2 hf)
      · refine a_icmp_ge (pc := 30) 45 C dX6_readsItem_30 (by decide) hf (fun hf => ?_) (fun hf => ?_)
        · exact a_sub [] rfl (hk45 M hf)
        · refine a_aload_n (pc := 33) C dX6_readsItem_33 0 rfl ?_
          refine a_aload_n (pc := 34) C dX6_readsItem_34 1 rfl ?_
          refine a_callV_I (pc := 35) (d' := 8) C dX6_readsItem_35 ml_X6_51 mc_X6_readsLine mv_X6_readsLine tx_31 rfl [.ref (ad c1)] rfl (Nat.le_of_ble_eq_true rfl) (Nat.le_of_ble_eq_true rfl) rfl (Nat.le_of_ble_eq_true rfl) (fun r M' h => c_X6_readsLine N c1 hc1 _  r M' h) hf (fun v15 M16 hf => ?_)
          refine a_if_eq (pc := 38) 45 C dX6_readsItem_38 (by decide) hf (fun hf => ?_) (fun hf => ?_)
          · exact a_sub [] rfl (hk45 M16 hf)
          · refine a_iconst (pc := 41) (v := 1) C dX6_readsItem_41 (by decide) ?_
            refine a_goto (pc := 42) 46 C dX6_readsItem_42 (by decide) ?_
            exact a_zret (pc := 46) C dX6_readsItem_46 (Or.inr rfl) (so_1 hf) (so_2 hf)
  · refine a_aload_n (pc := 9) C dX6_readsItem_9 0 rfl ?_
    refine a_aload_n (pc := 10) C dX6_readsItem_10 1 rfl ?_
    refine a_callV_I (pc := 11) (d' := 4) C dX6_readsItem_11 ml_X6_41 mc_X6_readsPoints mv_X6_readsPoints tx_31 rfl [.ref (ad c1)] rfl (Nat.le_of_ble_eq_true rfl) (Nat.le_of_ble_eq_true rfl) rfl (Nat.le_of_ble_eq_true rfl) (fun r M' h => c_X6_readsPoints N c1 hc1 _  r M' h) hf (fun v18 M19 hf => ?_)
    exact a_zret (pc := 14) C dX6_readsItem_14 (ck_some hf).1 (so_1 (ck_some hf).2) (so_2 (ck_some hf).2)
theorem dX6_readAll_0 : decode cX6_readAll 0 = .ok (.aload_n 0, 1) := by decide +kernel
theorem dX6_readAll_1 : decode cX6_readAll 1 = .ok (.iconst 0, 1) := by decide +kernel
theorem dX6_readAll_2 : decode cX6_readAll 2 = .ok (.putfield 19, 3) := by decide +kernel
theorem dX6_readAll_5 : decode cX6_readAll 5 = .ok (.iconst 0, 1) := by decide +kernel
theorem dX6_readAll_6 : decode cX6_readAll 6 = .ok (.istore_n 2, 1) := by decide +kernel
theorem dX6_readAll_7 : decode cX6_readAll 7 = .ok (.iconst 1, 1) := by decide +kernel
theorem dX6_readAll_8 : decode cX6_readAll 8 = .ok (.istore_n 3, 1) := by decide +kernel
theorem dX6_readAll_9 : decode cX6_readAll 9 = .ok (.iconst 0, 1) := by decide +kernel
theorem dX6_readAll_10 : decode cX6_readAll 10 = .ok (.istore 4, 2) := by decide +kernel
theorem dX6_readAll_12 : decode cX6_readAll 12 = .ok (.iload_n 3, 1) := by decide +kernel
theorem dX6_readAll_13 : decode cX6_readAll 13 = .ok (.ifCond .eq 57, 3) := by decide +kernel
theorem dX6_readAll_16 : decode cX6_readAll 16 = .ok (.iload 4, 2) := by decide +kernel
theorem dX6_readAll_18 : decode cX6_readAll 18 = .ok (.bipush 120, 2) := by decide +kernel
theorem dX6_readAll_20 : decode cX6_readAll 20 = .ok (.if_icmp .gt 50, 3) := by decide +kernel
theorem dX6_readAll_23 : decode cX6_readAll 23 = .ok (.aload_n 0, 1) := by decide +kernel
theorem dX6_readAll_24 : decode cX6_readAll 24 = .ok (.invokevirtual 22, 3) := by decide +kernel
theorem dX6_readAll_27 : decode cX6_readAll 27 = .ok (.aload_n 0, 1) := by decide +kernel
theorem dX6_readAll_28 : decode cX6_readAll 28 = .ok (.aload_n 1, 1) := by decide +kernel
theorem dX6_readAll_29 : decode cX6_readAll 29 = .ok (.invokevirtual 25, 3) := by decide +kernel
theorem dX6_readAll_32 : decode cX6_readAll 32 = .ok (.ifCond .ne 11, 3) := by decide +kernel
theorem dX6_readAll_35 : decode cX6_readAll 35 = .ok (.bipush (-100), 2) := by decide +kernel
theorem dX6_readAll_37 : decode cX6_readAll 37 = .ok (.aload_n 0, 1) := by decide +kernel
theorem dX6_readAll_38 : decode cX6_readAll 38 = .ok (.getfield 29, 3) := by decide +kernel
theorem dX6_readAll_41 : decode cX6_readAll 41 = .ok (.isub, 1) := by decide +kernel
theorem dX6_readAll_42 : decode cX6_readAll 42 = .ok (.ireturn, 1) := by decide +kernel
theorem dX6_readAll_43 : decode cX6_readAll 43 = .ok (.iinc 2 1, 3) := by decide +kernel
theorem dX6_readAll_46 : decode cX6_readAll 46 = .ok (.aload_n 0, 1) := by decide +kernel
theorem dX6_readAll_47 : decode cX6_readAll 47 = .ok (.invokevirtual 22, 3) := by decide +kernel
theorem dX6_readAll_50 : decode cX6_readAll 50 = .ok (.aload_n 0, 1) := by decide +kernel
theorem dX6_readAll_51 : decode cX6_readAll 51 = .ok (.getfield 32, 3) := by decide +kernel
theorem dX6_readAll_54 : decode cX6_readAll 54 = .ok (.iconst 3, 1) := by decide +kernel
theorem dX6_readAll_55 : decode cX6_readAll 55 = .ok (.if_icmp .ne 7, 3) := by decide +kernel
theorem dX6_readAll_58 : decode cX6_readAll 58 = .ok (.iconst 1, 1) := by decide +kernel
theorem dX6_readAll_59 : decode cX6_readAll 59 = .ok (.goto 4, 3) := by decide +kernel
theorem dX6_readAll_62 : decode cX6_readAll 62 = .ok (.iconst 0, 1) := by decide +kernel
theorem dX6_readAll_63 : decode cX6_readAll 63 = .ok (.istore_n 3, 1) := by decide +kernel
theorem dX6_readAll_64 : decode cX6_readAll 64 = .ok (.iinc 4 1, 3) := by decide +kernel
theorem dX6_readAll_67 : decode cX6_readAll 67 = .ok (.goto (-55), 3) := by decide +kernel
theorem dX6_readAll_70 : decode cX6_readAll 70 = .ok (.aload_n 0, 1) := by decide +kernel
theorem dX6_readAll_71 : decode cX6_readAll 71 = .ok (.getfield 32, 3) := by decide +kernel
theorem dX6_readAll_74 : decode cX6_readAll 74 = .ok (.ifCond .ne 7, 3) := by decide +kernel
theorem dX6_readAll_77 : decode cX6_readAll 77 = .ok (.iload_n 2, 1) := by decide +kernel
theorem dX6_readAll_78 : decode cX6_readAll 78 = .ok (.goto 10, 3) := by decide +kernel
theorem dX6_readAll_81 : decode cX6_readAll 81 = .ok (.bipush (-100), 2) := by decide +kernel
theorem dX6_readAll_83 : decode cX6_readAll 83 = .ok (.aload_n 0, 1) := by decide +kernel
theorem dX6_readAll_84 : decode cX6_readAll 84 = .ok (.getfield 29, 3) := by decide +kernel
theorem dX6_readAll_87 : decode cX6_readAll 87 = .ok (.isub, 1) := by decide +kernel
theorem dX6_readAll_88 : decode cX6_readAll 88 = .ok (.ireturn, 1) := by decide +kernel
def f_X6_readAll (N : Nat) (c1 : Nat) (M : Mem) : Option (Int32 × Mem) := nm (setI M 31 4 (0 : Int32)) (fun M1 => lp (fun (k12 : (Int32 × Int32 × Int32 × Mem) → Option (Int32 × Mem)) (a12 : Int32 × Int32 × Int32 × Mem) => jn (fun (a70 : Unit) => if (a12.2.2.2.1 31 2) = 0 then (some (a12.1, a12.2.2.2)) else (some (((-100 : Int32) - (a12.2.2.2.1 31 3)), a12.2.2.2))) (fun (k70 : Unit → Option (Int32 × Mem)) => if a12.2.1 = 0 then (k70 ()) else (if (120 : Int32) < a12.2.2.1 then (k70 ()) else (bd (f_X6_readToken N  a12.2.2.2) (fun M3 => bd (f_X6_readsItem N c1 M3) (fun w6 => if w6.1 = 0 then (some (((-100 : Int32) - (w6.2.1 31 3)), w6.2)) else (nm (a12.1 + (1 : Int32)) (fun v7 => bd (f_X6_readToken N  w6.2) (fun M9 => jn (fun (a63 : Int32) => nm (a12.2.2.1 + (1 : Int32)) (fun v10 => k12 (v7, a63, v10, M9))) (fun (k63 : Int32 → Option (Int32 × Mem)) => if (M9.1 31 2) = (3 : Int32) then (k63 (1 : Int32)) else (k63 (0 : Int32)))))))))))) N ((0 : Int32), (1 : Int32), (0 : Int32), M1))
set_option maxRecDepth 100000 in
set_option maxHeartbeats 4000000 in
theorem c_X6_readAll {l : Launch} {D : va_G} {ac : Nat → ClassId} {A : Nat → Prop} {ad : Nat → Nat} {rest : va_W} (N : Nat) (c1 : Nat) (hc1 : NetAt tabX c1) (M : Mem) (r0 : Int32) (M0 : Mem) (hf : f_X6_readAll N c1 M = some (r0, M0)) : CtI l D ac A tabX ad rest yX6_readAll cX6_readAll 5 .int 10 [.ref (ad 31), .ref (ad c1)] M r0 M0 := by
  refine ct_ofI (own := RX6) (by decide +kernel) rfl (Nat.le_of_ble_eq_true rfl) ?_
  intro p e s m args below meth c C
  unfold f_X6_readAll at hf
  refine a_L (L' := [(0, .ref (ad 31)), (1, .ref (ad c1))]) rfl ?_
  refine a_aload_n (pc := 0) C dX6_readAll_0 0 rfl ?_
  refine a_iconst (pc := 1) (v := 0) C dX6_readAll_1 (by decide) ?_
  refine a_putI (pc := 2) C dX6_readAll_2 fl_X6_19 tx_31 rfl hf (fun M1 hf => ?_)
  refine a_iconst (pc := 5) (v := 0) C dX6_readAll_5 (by decide) ?_
  refine a_istore_n (pc := 6) [(2, .int (0 : Int32)), (0, .ref (ad 31)), (1, .ref (ad c1))] C dX6_readAll_6 (by decide) rfl ?_
  refine a_iconst (pc := 7) (v := 1) C dX6_readAll_7 (by decide) ?_
  refine a_istore_n (pc := 8) [(3, .int (1 : Int32)), (2, .int (0 : Int32)), (0, .ref (ad 31)), (1, .ref (ad c1))] C dX6_readAll_8 (by decide) rfl ?_
  refine a_iconst (pc := 9) (v := 0) C dX6_readAll_9 (by decide) ?_
  refine a_istore (pc := 10) [(4, .int (0 : Int32)), (3, .int (1 : Int32)), (2, .int (0 : Int32)), (0, .ref (ad 31)), (1, .ref (ad c1))] C dX6_readAll_10 (by decide) rfl ?_
  refine a_sub [3, 4, 2, 1, 0] rfl ?_
  refine a_lp 12 (fun a12 : Int32 × Int32 × Int32 × Mem => [(0, .ref (ad 31)), (1, .ref (ad c1)), (2, .int a12.1), (3, .int a12.2.1), (4, .int a12.2.2.1)]) (fun a12 : Int32 × Int32 × Int32 × Mem => []) (fun a12 : Int32 × Int32 × Int32 × Mem => a12.2.2.2) (fun k12 a12 hk12 hf => ?_) N ((0 : Int32), (1 : Int32), (0 : Int32), M1) hf
  refine a_iload_n (pc := 12) C dX6_readAll_12 3 rfl ?_
  refine a_jn 70 (fun a70 : Unit => [(0, .ref (ad 31)), (2, .int a12.1)]) (fun a70 : Unit => []) (fun a70 : Unit => a12.2.2.2) hf (fun a70 hf => ?_) (fun k70 hk70 hf => ?_)
  · refine a_aload_n (pc := 70) C dX6_readAll_70 0 rfl ?_
    refine a_getI (pc := 71) C dX6_readAll_71 fl_X6_32 tx_31 rfl ?_
    refine a_if_ne (pc := 74) 81 C dX6_readAll_74 (by decide) hf (fun hf => ?_) (fun hf => ?_)
    · refine a_bipush (pc := 81) (v := (-100)) C dX6_readAll_81 (by decide) ?_
      refine a_aload_n (pc := 83) C dX6_readAll_83 0 rfl ?_
      refine a_getI (pc := 84) C dX6_readAll_84 fl_X6_29 tx_31 rfl ?_
      refine a_isub (pc := 87) C dX6_readAll_87 ?_
      exact a_iret (pc := 88) C dX6_readAll_88 (so_1 hf) (so_2 hf)
    · refine a_iload_n (pc := 77) C dX6_readAll_77 1 rfl ?_
      refine a_goto (pc := 78) 88 C dX6_readAll_78 (by decide) ?_
      exact a_iret (pc := 88) C dX6_readAll_88 (so_1 hf) (so_2 hf)
  · refine a_if_eq (pc := 13) 70 C dX6_readAll_13 (by decide) hf (fun hf => ?_) (fun hf => ?_)
    · exact a_sub [0, 2] rfl (hk70 () hf)
    · refine a_iload (pc := 16) C dX6_readAll_16 4 rfl ?_
      refine a_bipush (pc := 18) (v := 120) C dX6_readAll_18 (by decide) ?_
      refine a_icmp_gt (pc := 20) 70 C dX6_readAll_20 (by decide) hf (fun hf => ?_) (fun hf => ?_)
      · exact a_sub [0, 2] rfl (hk70 () hf)
      · refine a_aload_n (pc := 23) C dX6_readAll_23 0 rfl ?_
        refine a_callV_V (pc := 24) (d' := 2) C dX6_readAll_24 ml_X6_22 mc_X6_readToken mv_X6_readToken tx_31 rfl [] rfl (Nat.le_of_ble_eq_true rfl) (Nat.le_of_ble_eq_true rfl) rfl (Nat.le_of_ble_eq_true rfl) (fun M' h => c_X6_readToken N   _  M' h) hf (fun M3 hf => ?_)
        refine a_aload_n (pc := 27) C dX6_readAll_27 0 rfl ?_
        refine a_aload_n (pc := 28) C dX6_readAll_28 1 rfl ?_
        refine a_callV_I (pc := 29) (d' := 9) C dX6_readAll_29 ml_X6_25 mc_X6_readsItem mv_X6_readsItem tx_31 rfl [.ref (ad c1)] rfl (Nat.le_of_ble_eq_true rfl) (Nat.le_of_ble_eq_true rfl) rfl (Nat.le_of_ble_eq_true rfl) (fun r M' h => c_X6_readsItem N c1 hc1 _  r M' h) hf (fun v4 M5 hf => ?_)
        refine a_if_ne (pc := 32) 43 C dX6_readAll_32 (by decide) hf (fun hf => ?_) (fun hf => ?_)
        · refine a_iinc (pc := 43) (v := 1) (fun v7 => [(2, .int v7), (0, .ref (ad 31)), (1, .ref (ad c1)), (3, .int a12.2.1), (4, .int a12.2.2.1)]) C dX6_readAll_43 2 rfl (by decide) (by decide) (fun _ => rfl) hf (fun v7 hf => ?_)
          refine a_aload_n (pc := 46) C dX6_readAll_46 1 rfl ?_
          refine a_callV_V (pc := 47) (d' := 2) C dX6_readAll_47 ml_X6_22 mc_X6_readToken mv_X6_readToken tx_31 rfl [] rfl (Nat.le_of_ble_eq_true rfl) (Nat.le_of_ble_eq_true rfl) rfl (Nat.le_of_ble_eq_true rfl) (fun M' h => c_X6_readToken N   _  M' h) hf (fun M9 hf => ?_)
          refine a_aload_n (pc := 50) C dX6_readAll_50 1 rfl ?_
          refine a_getI (pc := 51) C dX6_readAll_51 fl_X6_32 tx_31 rfl ?_
          refine a_iconst (pc := 54) (v := 3) C dX6_readAll_54 (by decide) ?_
          refine a_jn 63 (fun a63 : Int32 => [(0, .ref (ad 31)), (1, .ref (ad c1)), (2, .int v7), (4, .int a12.2.2.1)]) (fun a63 : Int32 => [.int a63]) (fun a63 : Int32 => M9) hf (fun a63 hf => ?_) (fun k63 hk63 hf => ?_)
          · refine a_istore_n (pc := 63) [(3, .int a63), (0, .ref (ad 31)), (1, .ref (ad c1)), (2, .int v7), (4, .int a12.2.2.1)] C dX6_readAll_63 (by decide) rfl ?_
            refine a_iinc (pc := 64) (v := 1) (fun v10 => [(4, .int v10), (3, .int a63), (0, .ref (ad 31)), (1, .ref (ad c1)), (2, .int v7)]) C dX6_readAll_64 4 rfl (by decide) (by decide) (fun _ => rfl) hf (fun v10 hf => ?_)
            refine a_goto (pc := 67) 12 C dX6_readAll_67 (by decide) ?_
            exact a_sub [2, 3, 4, 1, 0] rfl (hk12 (v7, a63, v10, M9) hf)
          · refine a_icmp_ne (pc := 55) 62 C dX6_readAll_55 (by decide) hf (fun hf => ?_) (fun hf => ?_)
            · refine a_iconst (pc := 62) (v := 0) C dX6_readAll_62 (by decide) ?_
              exact a_sub [1, 2, 0, 4] rfl (hk63 (0 : Int32) hf)
            · refine a_iconst (pc := 58) (v := 1) C dX6_readAll_58 (by decide) ?_
              refine a_goto (pc := 59) 63 C dX6_readAll_59 (by decide) ?_
              exact a_sub [1, 2, 0, 4] rfl (hk63 (1 : Int32) hf)
        · refine a_bipush (pc := 35) (v := (-100)) C dX6_readAll_35 (by decide) ?_
          refine a_aload_n (pc := 37) C dX6_readAll_37 0 rfl ?_
          refine a_getI (pc := 38) C dX6_readAll_38 fl_X6_29 tx_31 rfl ?_
          refine a_isub (pc := 41) C dX6_readAll_41 ?_
          exact a_iret (pc := 42) C dX6_readAll_42 (so_1 hf) (so_2 hf)
theorem dX7_text_0 : decode cX7_text 0 = .ok (.aload_n 0, 1) := by decide +kernel
theorem dX7_text_1 : decode cX7_text 1 = .ok (.getfield 19, 3) := by decide +kernel
theorem dX7_text_4 : decode cX7_text 4 = .ok (.aload_n 0, 1) := by decide +kernel
theorem dX7_text_5 : decode cX7_text 5 = .ok (.getfield 12, 3) := by decide +kernel
theorem dX7_text_8 : decode cX7_text 8 = .ok (.invokevirtual 321, 3) := by decide +kernel
theorem dX7_text_11 : decode cX7_text 11 = .ok (.aload_n 0, 1) := by decide +kernel
theorem dX7_text_12 : decode cX7_text 12 = .ok (.getfield 39, 3) := by decide +kernel
theorem dX7_text_15 : decode cX7_text 15 = .ok (.aload_n 0, 1) := by decide +kernel
theorem dX7_text_16 : decode cX7_text 16 = .ok (.getfield 19, 3) := by decide +kernel
theorem dX7_text_19 : decode cX7_text 19 = .ok (.invokevirtual 324, 3) := by decide +kernel
theorem dX7_text_22 : decode cX7_text 22 = .ok (.istore_n 1, 1) := by decide +kernel
theorem dX7_text_23 : decode cX7_text 23 = .ok (.aload_n 0, 1) := by decide +kernel
theorem dX7_text_24 : decode cX7_text 24 = .ok (.getfield 39, 3) := by decide +kernel
theorem dX7_text_27 : decode cX7_text 27 = .ok (.iconst 0, 1) := by decide +kernel
theorem dX7_text_28 : decode cX7_text 28 = .ok (.putfield 138, 3) := by decide +kernel
theorem dX7_text_31 : decode cX7_text 31 = .ok (.iload_n 1, 1) := by decide +kernel
theorem dX7_text_32 : decode cX7_text 32 = .ok (.ifCond .lt 21, 3) := by decide +kernel
theorem dX7_text_35 : decode cX7_text 35 = .ok (.aload_n 0, 1) := by decide +kernel
theorem dX7_text_36 : decode cX7_text 36 = .ok (.getfield 25, 3) := by decide +kernel
theorem dX7_text_39 : decode cX7_text 39 = .ok (.invokevirtual 93, 3) := by decide +kernel
theorem dX7_text_42 : decode cX7_text 42 = .ok (.aload_n 0, 1) := by decide +kernel
theorem dX7_text_43 : decode cX7_text 43 = .ok (.getfield 12, 3) := by decide +kernel
theorem dX7_text_46 : decode cX7_text 46 = .ok (.aload_n 0, 1) := by decide +kernel
theorem dX7_text_47 : decode cX7_text 47 = .ok (.getfield 19, 3) := by decide +kernel
theorem dX7_text_50 : decode cX7_text 50 = .ok (.invokevirtual 321, 3) := by decide +kernel
theorem dX7_text_53 : decode cX7_text 53 = .ok (.iload_n 1, 1) := by decide +kernel
theorem dX7_text_54 : decode cX7_text 54 = .ok (.ireturn, 1) := by decide +kernel
def f_X7_text (N : Nat)  (M : Mem) : Option (Int32 × Mem) := bd (f_X1_become N 13 1 M) (fun M2 => bd (f_X6_readAll N 13 M2) (fun w5 => nm (setI w5.2 31 0 (0 : Int32)) (fun M6 => if w5.1 < 0 then (some (w5.1, M6)) else (bd (f_X4_forget N  M6) (fun M8 => bd (f_X1_become N 1 13 M8) (fun M10 => some (w5.1, M10)))))))
set_option maxRecDepth 100000 in
set_option maxHeartbeats 4000000 in
theorem c_X7_text {l : Launch} {D : va_G} {ac : Nat → ClassId} {A : Nat → Prop} {ad : Nat → Nat} {rest : va_W} (N : Nat)   (M : Mem) (r0 : Int32) (M0 : Mem) (hf : f_X7_text N  M = some (r0, M0)) : CtI l D ac A tabX ad rest yX7_text cX7_text 2 .int 11 [.ref (ad 0)] M r0 M0 := by
  refine ct_ofI (own := RX7) (by decide +kernel) rfl (Nat.le_of_ble_eq_true rfl) ?_
  intro p e s m args below meth c C
  unfold f_X7_text at hf
  refine a_L (L' := [(0, .ref (ad 0))]) rfl ?_
  refine a_aload_n (pc := 0) C dX7_text_0 0 rfl ?_
  refine a_getR (pc := 1) C dX7_text_1 fl_X7_19 tx_0 rfl ?_
  refine a_aload_n (pc := 4) C dX7_text_4 0 rfl ?_
  refine a_getR (pc := 5) C dX7_text_5 fl_X7_12 tx_0 rfl ?_
  refine a_callV_V (pc := 8) (d' := 1) C dX7_text_8 ml_X7_321 mc_X1_become mv_X1_become net_13.1 rfl [.ref (ad 1)] rfl (Nat.le_of_ble_eq_true rfl) (Nat.le_of_ble_eq_true rfl) rfl (Nat.le_of_ble_eq_true rfl) (fun M' h => c_X1_become N 13 1 net_13 net_1 _  M' h) hf (fun M2 hf => ?_)
  refine a_aload_n (pc := 11) C dX7_text_11 0 rfl ?_
  refine a_getR (pc := 12) C dX7_text_12 fl_X7_39 tx_0 rfl ?_
  refine a_aload_n (pc := 15) C dX7_text_15 0 rfl ?_
  refine a_getR (pc := 16) C dX7_text_16 fl_X7_19 tx_0 rfl ?_
  refine a_callV_I (pc := 19) (d' := 10) C dX7_text_19 ml_X7_324 mc_X6_readAll mv_X6_readAll tx_31 rfl [.ref (ad 13)] rfl (Nat.le_of_ble_eq_true rfl) (Nat.le_of_ble_eq_true rfl) rfl (Nat.le_of_ble_eq_true rfl) (fun r M' h => c_X6_readAll N 13 net_13 _  r M' h) hf (fun v3 M4 hf => ?_)
  refine a_istore_n (pc := 22) [(1, .int v3), (0, .ref (ad 0))] C dX7_text_22 (by decide) rfl ?_
  refine a_aload_n (pc := 23) C dX7_text_23 1 rfl ?_
  refine a_getR (pc := 24) C dX7_text_24 fl_X7_39 tx_0 rfl ?_
  refine a_iconst (pc := 27) (v := 0) C dX7_text_27 (by decide) ?_
  refine a_putI (pc := 28) C dX7_text_28 fl_X7_138 tx_31 rfl hf (fun M6 hf => ?_)
  refine a_iload_n (pc := 31) C dX7_text_31 0 rfl ?_
  refine a_if_lt (pc := 32) 53 C dX7_text_32 (by decide) hf (fun hf => ?_) (fun hf => ?_)
  · refine a_iload_n (pc := 53) C dX7_text_53 0 rfl ?_
    exact a_iret (pc := 54) C dX7_text_54 (so_1 hf) (so_2 hf)
  · refine a_aload_n (pc := 35) C dX7_text_35 1 rfl ?_
    refine a_getR (pc := 36) C dX7_text_36 fl_X7_25 tx_0 rfl ?_
    refine a_callV_V (pc := 39) (d' := 1) C dX7_text_39 ml_X7_93 mc_X4_forget mv_X4_forget tx_19 rfl [] rfl (Nat.le_of_ble_eq_true rfl) (Nat.le_of_ble_eq_true rfl) rfl (Nat.le_of_ble_eq_true rfl) (fun M' h => c_X4_forget N   _  M' h) hf (fun M8 hf => ?_)
    refine a_aload_n (pc := 42) C dX7_text_42 1 rfl ?_
    refine a_getR (pc := 43) C dX7_text_43 fl_X7_12 tx_0 rfl ?_
    refine a_aload_n (pc := 46) C dX7_text_46 1 rfl ?_
    refine a_getR (pc := 47) C dX7_text_47 fl_X7_19 tx_0 rfl ?_
    refine a_callV_V (pc := 50) (d' := 1) C dX7_text_50 ml_X7_321 mc_X1_become mv_X1_become net_1.1 rfl [.ref (ad 13)] rfl (Nat.le_of_ble_eq_true rfl) (Nat.le_of_ble_eq_true rfl) rfl (Nat.le_of_ble_eq_true rfl) (fun M' h => c_X1_become N 1 13 net_1 net_13 _  M' h) hf (fun M10 hf => ?_)
    refine a_iload_n (pc := 53) C dX7_text_53 0 rfl ?_
    exact a_iret (pc := 54) C dX7_text_54 (so_1 hf) (so_2 hf)
theorem dX2_countFrom_0 : decode cX2_countFrom 0 = .ok (.iload_n 2, 1) := by decide +kernel
theorem dX2_countFrom_1 : decode cX2_countFrom 1 = .ok (.aload_n 1, 1) := by decide +kernel
theorem dX2_countFrom_2 : decode cX2_countFrom 2 = .ok (.getfield 32, 3) := by decide +kernel
theorem dX2_countFrom_5 : decode cX2_countFrom 5 = .ok (.if_icmp .ge 9, 3) := by decide +kernel
theorem dX2_countFrom_8 : decode cX2_countFrom 8 = .ok (.iload_n 2, 1) := by decide +kernel
theorem dX2_countFrom_9 : decode cX2_countFrom 9 = .ok (.bipush 6, 2) := by decide +kernel
theorem dX2_countFrom_11 : decode cX2_countFrom 11 = .ok (.if_icmp .lt 5, 3) := by decide +kernel
theorem dX2_countFrom_14 : decode cX2_countFrom 14 = .ok (.iconst 1, 1) := by decide +kernel
theorem dX2_countFrom_15 : decode cX2_countFrom 15 = .ok (.ireturn, 1) := by decide +kernel
theorem dX2_countFrom_16 : decode cX2_countFrom 16 = .ok (.aload_n 0, 1) := by decide +kernel
theorem dX2_countFrom_17 : decode cX2_countFrom 17 = .ok (.aload_n 1, 1) := by decide +kernel
theorem dX2_countFrom_18 : decode cX2_countFrom 18 = .ok (.iload_n 2, 1) := by decide +kernel
theorem dX2_countFrom_19 : decode cX2_countFrom 19 = .ok (.invokevirtual 92, 3) := by decide +kernel
theorem dX2_countFrom_22 : decode cX2_countFrom 22 = .ok (.lstore_n 3, 1) := by decide +kernel
theorem dX2_countFrom_23 : decode cX2_countFrom 23 = .ok (.lload_n 3, 1) := by decide +kernel
theorem dX2_countFrom_24 : decode cX2_countFrom 24 = .ok (.lconst 0, 1) := by decide +kernel
theorem dX2_countFrom_25 : decode cX2_countFrom 25 = .ok (.lcmp, 1) := by decide +kernel
theorem dX2_countFrom_26 : decode cX2_countFrom 26 = .ok (.ifCond .ne 5, 3) := by decide +kernel
theorem dX2_countFrom_29 : decode cX2_countFrom 29 = .ok (.iconst 0, 1) := by decide +kernel
theorem dX2_countFrom_30 : decode cX2_countFrom 30 = .ok (.ireturn, 1) := by decide +kernel
theorem dX2_countFrom_31 : decode cX2_countFrom 31 = .ok (.aload_n 0, 1) := by decide +kernel
theorem dX2_countFrom_32 : decode cX2_countFrom 32 = .ok (.getfield 40, 3) := by decide +kernel
theorem dX2_countFrom_35 : decode cX2_countFrom 35 = .ok (.iload_n 2, 1) := by decide +kernel
theorem dX2_countFrom_36 : decode cX2_countFrom 36 = .ok (.ishr, 1) := by decide +kernel
theorem dX2_countFrom_37 : decode cX2_countFrom 37 = .ok (.iconst 1, 1) := by decide +kernel
theorem dX2_countFrom_38 : decode cX2_countFrom 38 = .ok (.iand, 1) := by decide +kernel
theorem dX2_countFrom_39 : decode cX2_countFrom 39 = .ok (.ifCond .ne 17, 3) := by decide +kernel
theorem dX2_countFrom_42 : decode cX2_countFrom 42 = .ok (.lload_n 3, 1) := by decide +kernel
theorem dX2_countFrom_43 : decode cX2_countFrom 43 = .ok (.invokestatic 82, 3) := by decide +kernel
theorem dX2_countFrom_46 : decode cX2_countFrom 46 = .ok (.aload_n 0, 1) := by decide +kernel
theorem dX2_countFrom_47 : decode cX2_countFrom 47 = .ok (.aload_n 1, 1) := by decide +kernel
theorem dX2_countFrom_48 : decode cX2_countFrom 48 = .ok (.iload_n 2, 1) := by decide +kernel
theorem dX2_countFrom_49 : decode cX2_countFrom 49 = .ok (.iconst 1, 1) := by decide +kernel
theorem dX2_countFrom_50 : decode cX2_countFrom 50 = .ok (.iadd, 1) := by decide +kernel
theorem dX2_countFrom_51 : decode cX2_countFrom 51 = .ok (.invokestatic 88, 3) := by decide +kernel
theorem dX2_countFrom_54 : decode cX2_countFrom 54 = .ok (.imul, 1) := by decide +kernel
theorem dX2_countFrom_55 : decode cX2_countFrom 55 = .ok (.ireturn, 1) := by decide +kernel
theorem dX2_countFrom_56 : decode cX2_countFrom 56 = .ok (.iconst 0, 1) := by decide +kernel
theorem dX2_countFrom_57 : decode cX2_countFrom 57 = .ok (.istore 5, 2) := by decide +kernel
theorem dX2_countFrom_59 : decode cX2_countFrom 59 = .ok (.iconst 0, 1) := by decide +kernel
theorem dX2_countFrom_60 : decode cX2_countFrom 60 = .ok (.istore 6, 2) := by decide +kernel
theorem dX2_countFrom_62 : decode cX2_countFrom 62 = .ok (.iload 6, 2) := by decide +kernel
theorem dX2_countFrom_64 : decode cX2_countFrom 64 = .ok (.aload_n 0, 1) := by decide +kernel
theorem dX2_countFrom_65 : decode cX2_countFrom 65 = .ok (.getfield 25, 3) := by decide +kernel
theorem dX2_countFrom_68 : decode cX2_countFrom 68 = .ok (.if_icmp .ge 41, 3) := by decide +kernel
theorem dX2_countFrom_71 : decode cX2_countFrom 71 = .ok (.lload_n 3, 1) := by decide +kernel
theorem dX2_countFrom_72 : decode cX2_countFrom 72 = .ok (.iload 6, 2) := by decide +kernel
theorem dX2_countFrom_74 : decode cX2_countFrom 74 = .ok (.lshr, 1) := by decide +kernel
theorem dX2_countFrom_75 : decode cX2_countFrom 75 = .ok (.lconst 1, 1) := by decide +kernel
theorem dX2_countFrom_76 : decode cX2_countFrom 76 = .ok (.land, 1) := by decide +kernel
theorem dX2_countFrom_77 : decode cX2_countFrom 77 = .ok (.lconst 1, 1) := by decide +kernel
theorem dX2_countFrom_78 : decode cX2_countFrom 78 = .ok (.lcmp, 1) := by decide +kernel
theorem dX2_countFrom_79 : decode cX2_countFrom 79 = .ok (.ifCond .ne 24, 3) := by decide +kernel
theorem dX2_countFrom_82 : decode cX2_countFrom 82 = .ok (.aload_n 0, 1) := by decide +kernel
theorem dX2_countFrom_83 : decode cX2_countFrom 83 = .ok (.getfield 15, 3) := by decide +kernel
theorem dX2_countFrom_86 : decode cX2_countFrom 86 = .ok (.iload_n 2, 1) := by decide +kernel
theorem dX2_countFrom_87 : decode cX2_countFrom 87 = .ok (.iload 6, 2) := by decide +kernel
theorem dX2_countFrom_89 : decode cX2_countFrom 89 = .ok (.iastore, 1) := by decide +kernel
theorem dX2_countFrom_90 : decode cX2_countFrom 90 = .ok (.iload 5, 2) := by decide +kernel
theorem dX2_countFrom_92 : decode cX2_countFrom 92 = .ok (.aload_n 0, 1) := by decide +kernel
theorem dX2_countFrom_93 : decode cX2_countFrom 93 = .ok (.aload_n 1, 1) := by decide +kernel
theorem dX2_countFrom_94 : decode cX2_countFrom 94 = .ok (.iload_n 2, 1) := by decide +kernel
theorem dX2_countFrom_95 : decode cX2_countFrom 95 = .ok (.iconst 1, 1) := by decide +kernel
theorem dX2_countFrom_96 : decode cX2_countFrom 96 = .ok (.iadd, 1) := by decide +kernel
theorem dX2_countFrom_97 : decode cX2_countFrom 97 = .ok (.invokestatic 88, 3) := by decide +kernel
theorem dX2_countFrom_100 : decode cX2_countFrom 100 = .ok (.iadd, 1) := by decide +kernel
theorem dX2_countFrom_101 : decode cX2_countFrom 101 = .ok (.istore 5, 2) := by decide +kernel
theorem dX2_countFrom_103 : decode cX2_countFrom 103 = .ok (.iinc 6 1, 3) := by decide +kernel
theorem dX2_countFrom_106 : decode cX2_countFrom 106 = .ok (.goto (-44), 3) := by decide +kernel
theorem dX2_countFrom_109 : decode cX2_countFrom 109 = .ok (.iload 5, 2) := by decide +kernel
theorem dX2_countFrom_111 : decode cX2_countFrom 111 = .ok (.ireturn, 1) := by decide +kernel
def f_X2_countFrom (N : Nat) : Nat → Nat → Int32 → Mem → Option (Int32 × Mem)
  | 0, _, _, _ => none
  | dd + 1, c1, x2, M => if (M.1 c1 0) ≤ x2 then (some ((1 : Int32), M)) else (if x2 < (6 : Int32) then (bd (f_X2_openTo N c1 x2 M) (fun v1 => if (lg_cmp v1 (0 : Int64)) = 0 then (some ((0 : Int32), M)) else (if (((M.1 26 3) >>> (x2 &&& 31)) &&& (1 : Int32)) = 0 then (bd (f_J13_bitCount_95d88 N v1 M) (fun v9 => bd (f_X2_countFrom N dd c1 (x2 + (1 : Int32)) M) (fun w13 => some ((v9 * w13.1), w13.2)))) else (lp (fun (k62 : (Int32 × Int32 × Mem) → Option (Int32 × Mem)) (a62 : Int32 × Int32 × Mem) => if (a62.2.2.1 26 1) ≤ a62.2.1 then (some (a62.1, a62.2.2)) else (jn (fun (a103 : Int32 × Mem) => nm (a62.2.1 + (1 : Int32)) (fun v3 => k62 (a103.1, v3, a103.2))) (fun (k103 : (Int32 × Mem) → Option (Int32 × Mem)) => if (lg_cmp ((v1 >>> (a62.2.1.toInt64 &&& 63)) &&& (1 : Int64)) (1 : Int64)) = 0 then (ck (inb x2 6) (nm (setI a62.2.2 28 x2.toNatClampNeg a62.2.1) (fun M4 => bd (f_X2_countFrom N dd c1 (x2 + (1 : Int32)) M4) (fun w7 => nm (a62.1 + w7.1) (fun v8 => k103 (v8, w7.2)))))) else (k103 (a62.1, a62.2.2))))) N ((0 : Int32), (0 : Int32), M))))) else (some ((1 : Int32), M)))
set_option maxRecDepth 100000 in
set_option maxHeartbeats 4000000 in
theorem c_X2_countFrom {l : Launch} {D : va_G} {ac : Nat → ClassId} {A : Nat → Prop} {ad : Nat → Nat} {rest : va_W} (N : Nat) : ∀ (dd : Nat) (c1 : Nat) (x2 : Int32) (hc1 : NetAt tabX c1) (M : Mem) (r0 : Int32) (M0 : Mem), f_X2_countFrom N dd c1 x2 M = some (r0, M0) → CtI l D ac A tabX ad rest yX2_countFrom cX2_countFrom 7 .int (3 + dd) [.ref (ad 26), .ref (ad c1), .int x2] M r0 M0 := by
  intro dd
  induction dd with
  | zero => intro c1 x2 hc1 M r0 M0 hf; cases hf
  | succ dd ih =>
  intro c1 x2 hc1 M r0 M0 hf
  refine ct_ofI (own := RX2) (by decide +kernel) rfl (Nat.le_of_ble_eq_true rfl) ?_
  intro p e s m args below meth c C
  unfold f_X2_countFrom at hf
  refine a_L (L' := [(0, .ref (ad 26)), (1, .ref (ad c1)), (2, .int x2)]) rfl ?_
  refine a_iload_n (pc := 0) C dX2_countFrom_0 2 rfl ?_
  refine a_aload_n (pc := 1) C dX2_countFrom_1 1 rfl ?_
  refine a_getI (pc := 2) C dX2_countFrom_2 fl_X2_32 hc1.1 rfl ?_
  refine a_icmp_ge (pc := 5) 14 C dX2_countFrom_5 (by decide) hf (fun hf => ?_) (fun hf => ?_)
  · refine a_iconst (pc := 14) (v := 1) C dX2_countFrom_14 (by decide) ?_
    exact a_iret (pc := 15) C dX2_countFrom_15 (so_1 hf) (so_2 hf)
  · refine a_iload_n (pc := 8) C dX2_countFrom_8 2 rfl ?_
    refine a_bipush (pc := 9) (v := 6) C dX2_countFrom_9 (by decide) ?_
    refine a_icmp_lt (pc := 11) 16 C dX2_countFrom_11 (by decide) hf (fun hf => ?_) (fun hf => ?_)
    · refine a_aload_n (pc := 16) C dX2_countFrom_16 0 rfl ?_
      refine a_aload_n (pc := 17) C dX2_countFrom_17 1 rfl ?_
      refine a_iload_n (pc := 18) C dX2_countFrom_18 2 rfl ?_
      refine a_callV_Jr (pc := 19) (d' := 2) C dX2_countFrom_19 ml_X2_92 mc_X2_openTo mv_X2_openTo tx_26 rfl [.ref (ad c1), .int x2] rfl (by omega) (Nat.le_of_ble_eq_true rfl) rfl (Nat.le_of_ble_eq_true rfl) (fun r h => c_X2_openTo N c1 x2 hc1 _  r h) hf (fun v1 hf => ?_)
      refine a_lstore_n (pc := 22) [(3, .long v1), (0, .ref (ad 26)), (1, .ref (ad c1)), (2, .int x2)] C dX2_countFrom_22 (by decide) rfl ?_
      refine a_lload_n (pc := 23) C dX2_countFrom_23 0 rfl ?_
      refine a_lconst (pc := 24) (v := 0) C dX2_countFrom_24 (by decide) ?_
      refine a_lcmp (pc := 25) C dX2_countFrom_25 ?_
      refine a_if_ne (pc := 26) 31 C dX2_countFrom_26 (by decide) hf (fun hf => ?_) (fun hf => ?_)
      · refine a_aload_n (pc := 31) C dX2_countFrom_31 1 rfl ?_
        refine a_getI (pc := 32) C dX2_countFrom_32 fl_X2_40 tx_26 rfl ?_
        refine a_iload_n (pc := 35) C dX2_countFrom_35 3 rfl ?_
        refine a_ishr (pc := 36) C dX2_countFrom_36 ?_
        refine a_iconst (pc := 37) (v := 1) C dX2_countFrom_37 (by decide) ?_
        refine a_iand (pc := 38) C dX2_countFrom_38 ?_
        refine a_if_ne (pc := 39) 56 C dX2_countFrom_39 (by decide) hf (fun hf => ?_) (fun hf => ?_)
        · refine a_iconst (pc := 56) (v := 0) C dX2_countFrom_56 (by decide) ?_
          refine a_istore (pc := 57) [(5, .int (0 : Int32)), (3, .long v1), (0, .ref (ad 26)), (1, .ref (ad c1)), (2, .int x2)] C dX2_countFrom_57 (by decide) rfl ?_
          refine a_iconst (pc := 59) (v := 0) C dX2_countFrom_59 (by decide) ?_
          refine a_istore (pc := 60) [(6, .int (0 : Int32)), (5, .int (0 : Int32)), (3, .long v1), (0, .ref (ad 26)), (1, .ref (ad c1)), (2, .int x2)] C dX2_countFrom_60 (by decide) rfl ?_
          refine a_sub [3, 4, 5, 2, 1, 0] rfl ?_
          refine a_lp 62 (fun a62 : Int32 × Int32 × Mem => [(0, .ref (ad 26)), (1, .ref (ad c1)), (2, .int x2), (3, .long v1), (5, .int a62.1), (6, .int a62.2.1)]) (fun a62 : Int32 × Int32 × Mem => []) (fun a62 : Int32 × Int32 × Mem => a62.2.2) (fun k62 a62 hk62 hf => ?_) N ((0 : Int32), (0 : Int32), M) hf
          refine a_iload (pc := 62) C dX2_countFrom_62 5 rfl ?_
          refine a_aload_n (pc := 64) C dX2_countFrom_64 0 rfl ?_
          refine a_getI (pc := 65) C dX2_countFrom_65 fl_X2_25 tx_26 rfl ?_
          refine a_icmp_ge (pc := 68) 109 C dX2_countFrom_68 (by decide) hf (fun hf => ?_) (fun hf => ?_)
          · refine a_iload (pc := 109) C dX2_countFrom_109 4 rfl ?_
            exact a_iret (pc := 111) C dX2_countFrom_111 (so_1 hf) (so_2 hf)
          · refine a_lload_n (pc := 71) C dX2_countFrom_71 3 rfl ?_
            refine a_iload (pc := 72) C dX2_countFrom_72 5 rfl ?_
            refine a_lshr (pc := 74) C dX2_countFrom_74 ?_
            refine a_lconst (pc := 75) (v := 1) C dX2_countFrom_75 (by decide) ?_
            refine a_land (pc := 76) C dX2_countFrom_76 ?_
            refine a_lconst (pc := 77) (v := 1) C dX2_countFrom_77 (by decide) ?_
            refine a_lcmp (pc := 78) C dX2_countFrom_78 ?_
            refine a_jn 103 (fun a103 : Int32 × Mem => [(0, .ref (ad 26)), (1, .ref (ad c1)), (2, .int x2), (3, .long v1), (5, .int a103.1), (6, .int a62.2.1)]) (fun a103 : Int32 × Mem => []) (fun a103 : Int32 × Mem => a103.2) hf (fun a103 hf => ?_) (fun k103 hk103 hf => ?_)
            · refine a_iinc (pc := 103) (v := 1) (fun v3 => [(6, .int v3), (0, .ref (ad 26)), (1, .ref (ad c1)), (2, .int x2), (3, .long v1), (5, .int a103.1)]) C dX2_countFrom_103 5 rfl (by decide) (by decide) (fun _ => rfl) hf (fun v3 hf => ?_)
              refine a_goto (pc := 106) 62 C dX2_countFrom_106 (by decide) ?_
              exact a_sub [1, 2, 3, 4, 5, 0] rfl (hk62 (a103.1, v3, a103.2) hf)
            · refine a_if_ne (pc := 79) 103 C dX2_countFrom_79 (by decide) hf (fun hf => ?_) (fun hf => ?_)
              · exact a_sub [0, 1, 2, 3, 4, 5] rfl (hk103 (a62.1, a62.2.2) hf)
              · refine a_aload_n (pc := 82) C dX2_countFrom_82 0 rfl ?_
                refine a_getR (pc := 83) C dX2_countFrom_83 fl_X2_15 tx_26 rfl ?_
                refine a_iload_n (pc := 86) C dX2_countFrom_86 2 rfl ?_
                refine a_iload (pc := 87) C dX2_countFrom_87 5 rfl ?_
                refine a_iast (pc := 89) C dX2_countFrom_89 tx_28 hf (fun M4 hf => ?_)
                refine a_iload (pc := 90) C dX2_countFrom_90 4 rfl ?_
                refine a_aload_n (pc := 92) C dX2_countFrom_92 0 rfl ?_
                refine a_aload_n (pc := 93) C dX2_countFrom_93 1 rfl ?_
                refine a_iload_n (pc := 94) C dX2_countFrom_94 2 rfl ?_
                refine a_iconst (pc := 95) (v := 1) C dX2_countFrom_95 (by decide) ?_
                refine a_iadd (pc := 96) C dX2_countFrom_96 ?_
                refine a_callS_I (pc := 97) (d' := (3 + dd)) C dX2_countFrom_97 ml_X2_88 mc_X2_countFrom ms_X2_countFrom [.ref (ad 26), .ref (ad c1), .int (x2 + (1 : Int32))] rfl (by omega) (Nat.le_of_ble_eq_true rfl) rfl (Nat.le_of_ble_eq_true rfl) (fun r M' h => ih c1 (x2 + (1 : Int32)) hc1 _  r M' h) hf (fun v5 M6 hf => ?_)
                refine a_iadd (pc := 100) C dX2_countFrom_100 ?_
                refine a_nmi hf (fun v8 hf => ?_)
                refine a_istore (pc := 101) [(5, .int v8), (0, .ref (ad 26)), (1, .ref (ad c1)), (2, .int x2), (3, .long v1), (6, .int a62.2.1)] C dX2_countFrom_101 (by decide) rfl ?_
                exact a_sub [1, 2, 3, 4, 0, 5] rfl (hk103 (v8, M6) hf)
        · refine a_lload_n (pc := 42) C dX2_countFrom_42 0 rfl ?_
          refine a_callS_Ir (pc := 43) (d' := 1) C dX2_countFrom_43 ml_X2_82 mc_J13_bitCount_95d88 ms_J13_bitCount_95d88 [.long v1] rfl (by omega) (Nat.le_of_ble_eq_true rfl) rfl (Nat.le_of_ble_eq_true rfl) (fun r h => c_J13_bitCount_95d88 N v1  _  r h) hf (fun v9 hf => ?_)
          refine a_aload_n (pc := 46) C dX2_countFrom_46 1 rfl ?_
          refine a_aload_n (pc := 47) C dX2_countFrom_47 2 rfl ?_
          refine a_iload_n (pc := 48) C dX2_countFrom_48 3 rfl ?_
          refine a_iconst (pc := 49) (v := 1) C dX2_countFrom_49 (by decide) ?_
          refine a_iadd (pc := 50) C dX2_countFrom_50 ?_
          refine a_callS_I (pc := 51) (d' := (3 + dd)) C dX2_countFrom_51 ml_X2_88 mc_X2_countFrom ms_X2_countFrom [.ref (ad 26), .ref (ad c1), .int (x2 + (1 : Int32))] rfl (by omega) (Nat.le_of_ble_eq_true rfl) rfl (Nat.le_of_ble_eq_true rfl) (fun r M' h => ih c1 (x2 + (1 : Int32)) hc1 _  r M' h) hf (fun v11 M12 hf => ?_)
          refine a_imul (pc := 54) C dX2_countFrom_54 ?_
          exact a_iret (pc := 55) C dX2_countFrom_55 (so_1 hf) (so_2 hf)
      · refine a_iconst (pc := 29) (v := 0) C dX2_countFrom_29 (by decide) ?_
        exact a_iret (pc := 30) C dX2_countFrom_30 (so_1 hf) (so_2 hf)
    · refine a_iconst (pc := 14) (v := 1) C dX2_countFrom_14 (by decide) ?_
      exact a_iret (pc := 15) C dX2_countFrom_15 (so_1 hf) (so_2 hf)
theorem dX2_countAll_0 : decode cX2_countAll 0 = .ok (.iload_n 2, 1) := by decide +kernel
theorem dX2_countAll_1 : decode cX2_countAll 1 = .ok (.iconst 1, 1) := by decide +kernel
theorem dX2_countAll_2 : decode cX2_countAll 2 = .ok (.if_icmp .eq 10, 3) := by decide +kernel
theorem dX2_countAll_5 : decode cX2_countAll 5 = .ok (.aload_n 1, 1) := by decide +kernel
theorem dX2_countAll_6 : decode cX2_countAll 6 = .ok (.getfield 32, 3) := by decide +kernel
theorem dX2_countAll_9 : decode cX2_countAll 9 = .ok (.ifCond .ne 10, 3) := by decide +kernel
theorem dX2_countAll_12 : decode cX2_countAll 12 = .ok (.aload_n 0, 1) := by decide +kernel
theorem dX2_countAll_13 : decode cX2_countAll 13 = .ok (.aload_n 1, 1) := by decide +kernel
theorem dX2_countAll_14 : decode cX2_countAll 14 = .ok (.iconst 0, 1) := by decide +kernel
theorem dX2_countAll_15 : decode cX2_countAll 15 = .ok (.invokestatic 88, 3) := by decide +kernel
theorem dX2_countAll_18 : decode cX2_countAll 18 = .ok (.ireturn, 1) := by decide +kernel
theorem dX2_countAll_19 : decode cX2_countAll 19 = .ok (.aload_n 0, 1) := by decide +kernel
theorem dX2_countAll_20 : decode cX2_countAll 20 = .ok (.getfield 21, 3) := by decide +kernel
theorem dX2_countAll_23 : decode cX2_countAll 23 = .ok (.iconst 0, 1) := by decide +kernel
theorem dX2_countAll_24 : decode cX2_countAll 24 = .ok (.lconst 1, 1) := by decide +kernel
theorem dX2_countAll_25 : decode cX2_countAll 25 = .ok (.lastore, 1) := by decide +kernel
theorem dX2_countAll_26 : decode cX2_countAll 26 = .ok (.aload_n 0, 1) := by decide +kernel
theorem dX2_countAll_27 : decode cX2_countAll 27 = .ok (.getfield 25, 3) := by decide +kernel
theorem dX2_countAll_30 : decode cX2_countAll 30 = .ok (.aload_n 0, 1) := by decide +kernel
theorem dX2_countAll_31 : decode cX2_countAll 31 = .ok (.aload_n 1, 1) := by decide +kernel
theorem dX2_countAll_32 : decode cX2_countAll 32 = .ok (.iconst 0, 1) := by decide +kernel
theorem dX2_countAll_33 : decode cX2_countAll 33 = .ok (.invokestatic 88, 3) := by decide +kernel
theorem dX2_countAll_36 : decode cX2_countAll 36 = .ok (.imul, 1) := by decide +kernel
theorem dX2_countAll_37 : decode cX2_countAll 37 = .ok (.ireturn, 1) := by decide +kernel
def f_X2_countAll (N : Nat) (c1 : Nat) (x2 : Int32) (M : Mem) : Option (Int32 × Mem) := jn (fun (a12 : Unit) => bd (f_X2_countFrom N 10 c1 (0 : Int32) M) (fun w3 => some (w3.1, w3.2))) (fun (k12 : Unit → Option (Int32 × Mem)) => if x2 = (1 : Int32) then (k12 ()) else (if (M.1 c1 0) = 0 then (k12 ()) else (ck (inb (0 : Int32) 6) (nm (setJ M 30 (0 : Int32).toNatClampNeg (1 : Int64)) (fun M4 => bd (f_X2_countFrom N 10 c1 (0 : Int32) M4) (fun w7 => some (((M4.1 26 1) * w7.1), w7.2)))))))
set_option maxRecDepth 100000 in
set_option maxHeartbeats 4000000 in
theorem c_X2_countAll {l : Launch} {D : va_G} {ac : Nat → ClassId} {A : Nat → Prop} {ad : Nat → Nat} {rest : va_W} (N : Nat) (c1 : Nat) (x2 : Int32) (hc1 : NetAt tabX c1) (M : Mem) (r0 : Int32) (M0 : Mem) (hf : f_X2_countAll N c1 x2 M = some (r0, M0)) : CtI l D ac A tabX ad rest yX2_countAll cX2_countAll 3 .int 14 [.ref (ad 26), .ref (ad c1), .int x2] M r0 M0 := by
  refine ct_ofI (own := RX2) (by decide +kernel) rfl (Nat.le_of_ble_eq_true rfl) ?_
  intro p e s m args below meth c C
  unfold f_X2_countAll at hf
  refine a_L (L' := [(0, .ref (ad 26)), (1, .ref (ad c1)), (2, .int x2)]) rfl ?_
  refine a_iload_n (pc := 0) C dX2_countAll_0 2 rfl ?_
  refine a_iconst (pc := 1) (v := 1) C dX2_countAll_1 (by decide) ?_
  refine a_jn 12 (fun a12 : Unit => [(0, .ref (ad 26)), (1, .ref (ad c1))]) (fun a12 : Unit => []) (fun a12 : Unit => M) hf (fun a12 hf => ?_) (fun k12 hk12 hf => ?_)
  · refine a_aload_n (pc := 12) C dX2_countAll_12 0 rfl ?_
    refine a_aload_n (pc := 13) C dX2_countAll_13 1 rfl ?_
    refine a_iconst (pc := 14) (v := 0) C dX2_countAll_14 (by decide) ?_
    refine a_callS_I (pc := 15) (d' := 13) C dX2_countAll_15 ml_X2_88 mc_X2_countFrom ms_X2_countFrom [.ref (ad 26), .ref (ad c1), .int (0 : Int32)] rfl (Nat.le_of_ble_eq_true rfl) (Nat.le_of_ble_eq_true rfl) rfl (Nat.le_of_ble_eq_true rfl) (fun r M' h => c_X2_countFrom N 10 c1 (0 : Int32) hc1 _  r M' h) hf (fun v1 M2 hf => ?_)
    exact a_iret (pc := 18) C dX2_countAll_18 (so_1 hf) (so_2 hf)
  · refine a_icmp_eq (pc := 2) 12 C dX2_countAll_2 (by decide) hf (fun hf => ?_) (fun hf => ?_)
    · exact a_sub [0, 1] rfl (hk12 () hf)
    · refine a_aload_n (pc := 5) C dX2_countAll_5 1 rfl ?_
      refine a_getI (pc := 6) C dX2_countAll_6 fl_X2_32 hc1.1 rfl ?_
      refine a_if_ne (pc := 9) 19 C dX2_countAll_9 (by decide) hf (fun hf => ?_) (fun hf => ?_)
      · refine a_aload_n (pc := 19) C dX2_countAll_19 0 rfl ?_
        refine a_getR (pc := 20) C dX2_countAll_20 fl_X2_21 tx_26 rfl ?_
        refine a_iconst (pc := 23) (v := 0) C dX2_countAll_23 (by decide) ?_
        refine a_lconst (pc := 24) (v := 1) C dX2_countAll_24 (by decide) ?_
        refine a_last (pc := 25) C dX2_countAll_25 tx_30 hf (fun M4 hf => ?_)
        refine a_aload_n (pc := 26) C dX2_countAll_26 0 rfl ?_
        refine a_getI (pc := 27) C dX2_countAll_27 fl_X2_25 tx_26 rfl ?_
        refine a_aload_n (pc := 30) C dX2_countAll_30 0 rfl ?_
        refine a_aload_n (pc := 31) C dX2_countAll_31 1 rfl ?_
        refine a_iconst (pc := 32) (v := 0) C dX2_countAll_32 (by decide) ?_
        refine a_callS_I (pc := 33) (d' := 13) C dX2_countAll_33 ml_X2_88 mc_X2_countFrom ms_X2_countFrom [.ref (ad 26), .ref (ad c1), .int (0 : Int32)] rfl (Nat.le_of_ble_eq_true rfl) (Nat.le_of_ble_eq_true rfl) rfl (Nat.le_of_ble_eq_true rfl) (fun r M' h => c_X2_countFrom N 10 c1 (0 : Int32) hc1 _  r M' h) hf (fun v5 M6 hf => ?_)
        refine a_imul (pc := 36) C dX2_countAll_36 ?_
        exact a_iret (pc := 37) C dX2_countAll_37 (so_1 hf) (so_2 hf)
      · exact a_sub [0, 1] rfl (hk12 () hf)
theorem dX8_ends_0 : decode cX8_ends 0 = .ok (.iconst (-1), 1) := by decide +kernel
theorem dX8_ends_1 : decode cX8_ends 1 = .ok (.istore_n 3, 1) := by decide +kernel
theorem dX8_ends_2 : decode cX8_ends 2 = .ok (.iconst 0, 1) := by decide +kernel
theorem dX8_ends_3 : decode cX8_ends 3 = .ok (.istore 4, 2) := by decide +kernel
theorem dX8_ends_5 : decode cX8_ends 5 = .ok (.iload 4, 2) := by decide +kernel
theorem dX8_ends_7 : decode cX8_ends 7 = .ok (.aload_n 0, 1) := by decide +kernel
theorem dX8_ends_8 : decode cX8_ends 8 = .ok (.getfield 95, 3) := by decide +kernel
theorem dX8_ends_11 : decode cX8_ends 11 = .ok (.if_icmp .ge 58, 3) := by decide +kernel
theorem dX8_ends_14 : decode cX8_ends 14 = .ok (.iload_n 2, 1) := by decide +kernel
theorem dX8_ends_15 : decode cX8_ends 15 = .ok (.iload 4, 2) := by decide +kernel
theorem dX8_ends_17 : decode cX8_ends 17 = .ok (.invokestatic 158, 3) := by decide +kernel
theorem dX8_ends_20 : decode cX8_ends 20 = .ok (.ifCond .eq 43, 3) := by decide +kernel
theorem dX8_ends_23 : decode cX8_ends 23 = .ok (.iload_n 3, 1) := by decide +kernel
theorem dX8_ends_24 : decode cX8_ends 24 = .ok (.iconst (-1), 1) := by decide +kernel
theorem dX8_ends_25 : decode cX8_ends 25 = .ok (.if_icmp .eq 35, 3) := by decide +kernel
theorem dX8_ends_28 : decode cX8_ends 28 = .ok (.aload_n 0, 1) := by decide +kernel
theorem dX8_ends_29 : decode cX8_ends 29 = .ok (.getfield 35, 3) := by decide +kernel
theorem dX8_ends_32 : decode cX8_ends 32 = .ok (.bipush 6, 2) := by decide +kernel
theorem dX8_ends_34 : decode cX8_ends 34 = .ok (.iload_n 1, 1) := by decide +kernel
theorem dX8_ends_35 : decode cX8_ends 35 = .ok (.imul, 1) := by decide +kernel
theorem dX8_ends_36 : decode cX8_ends 36 = .ok (.iload 4, 2) := by decide +kernel
theorem dX8_ends_38 : decode cX8_ends 38 = .ok (.iadd, 1) := by decide +kernel
theorem dX8_ends_39 : decode cX8_ends 39 = .ok (.laload, 1) := by decide +kernel
theorem dX8_ends_40 : decode cX8_ends 40 = .ok (.invokestatic 162, 3) := by decide +kernel
theorem dX8_ends_43 : decode cX8_ends 43 = .ok (.aload_n 0, 1) := by decide +kernel
theorem dX8_ends_44 : decode cX8_ends 44 = .ok (.getfield 35, 3) := by decide +kernel
theorem dX8_ends_47 : decode cX8_ends 47 = .ok (.bipush 6, 2) := by decide +kernel
theorem dX8_ends_49 : decode cX8_ends 49 = .ok (.iload_n 1, 1) := by decide +kernel
theorem dX8_ends_50 : decode cX8_ends 50 = .ok (.imul, 1) := by decide +kernel
theorem dX8_ends_51 : decode cX8_ends 51 = .ok (.iload_n 3, 1) := by decide +kernel
theorem dX8_ends_52 : decode cX8_ends 52 = .ok (.iadd, 1) := by decide +kernel
theorem dX8_ends_53 : decode cX8_ends 53 = .ok (.laload, 1) := by decide +kernel
theorem dX8_ends_54 : decode cX8_ends 54 = .ok (.invokestatic 162, 3) := by decide +kernel
theorem dX8_ends_57 : decode cX8_ends 57 = .ok (.if_icmp .ge 6, 3) := by decide +kernel
theorem dX8_ends_60 : decode cX8_ends 60 = .ok (.iload 4, 2) := by decide +kernel
theorem dX8_ends_62 : decode cX8_ends 62 = .ok (.istore_n 3, 1) := by decide +kernel
theorem dX8_ends_63 : decode cX8_ends 63 = .ok (.iinc 4 1, 3) := by decide +kernel
theorem dX8_ends_66 : decode cX8_ends 66 = .ok (.goto (-61), 3) := by decide +kernel
theorem dX8_ends_69 : decode cX8_ends 69 = .ok (.iload_n 3, 1) := by decide +kernel
theorem dX8_ends_70 : decode cX8_ends 70 = .ok (.iconst (-1), 1) := by decide +kernel
theorem dX8_ends_71 : decode cX8_ends 71 = .ok (.if_icmp .ne 5, 3) := by decide +kernel
theorem dX8_ends_74 : decode cX8_ends 74 = .ok (.iconst 1, 1) := by decide +kernel
theorem dX8_ends_75 : decode cX8_ends 75 = .ok (.ireturn, 1) := by decide +kernel
theorem dX8_ends_76 : decode cX8_ends 76 = .ok (.iconst 0, 1) := by decide +kernel
theorem dX8_ends_77 : decode cX8_ends 77 = .ok (.istore 4, 2) := by decide +kernel
theorem dX8_ends_79 : decode cX8_ends 79 = .ok (.iload 4, 2) := by decide +kernel
theorem dX8_ends_81 : decode cX8_ends 81 = .ok (.aload_n 0, 1) := by decide +kernel
theorem dX8_ends_82 : decode cX8_ends 82 = .ok (.getfield 148, 3) := by decide +kernel
theorem dX8_ends_85 : decode cX8_ends 85 = .ok (.if_icmp .ge 60, 3) := by decide +kernel
theorem dX8_ends_88 : decode cX8_ends 88 = .ok (.aload_n 0, 1) := by decide +kernel
theorem dX8_ends_89 : decode cX8_ends 89 = .ok (.getfield 35, 3) := by decide +kernel
theorem dX8_ends_92 : decode cX8_ends 92 = .ok (.bipush 6, 2) := by decide +kernel
theorem dX8_ends_94 : decode cX8_ends 94 = .ok (.iload_n 1, 1) := by decide +kernel
theorem dX8_ends_95 : decode cX8_ends 95 = .ok (.imul, 1) := by decide +kernel
theorem dX8_ends_96 : decode cX8_ends 96 = .ok (.iload_n 3, 1) := by decide +kernel
theorem dX8_ends_97 : decode cX8_ends 97 = .ok (.iadd, 1) := by decide +kernel
theorem dX8_ends_98 : decode cX8_ends 98 = .ok (.laload, 1) := by decide +kernel
theorem dX8_ends_99 : decode cX8_ends 99 = .ok (.iload 4, 2) := by decide +kernel
theorem dX8_ends_101 : decode cX8_ends 101 = .ok (.lshr, 1) := by decide +kernel
theorem dX8_ends_102 : decode cX8_ends 102 = .ok (.lconst 1, 1) := by decide +kernel
theorem dX8_ends_103 : decode cX8_ends 103 = .ok (.land, 1) := by decide +kernel
theorem dX8_ends_104 : decode cX8_ends 104 = .ok (.lconst 1, 1) := by decide +kernel
theorem dX8_ends_105 : decode cX8_ends 105 = .ok (.lcmp, 1) := by decide +kernel
theorem dX8_ends_106 : decode cX8_ends 106 = .ok (.ifCond .ne 33, 3) := by decide +kernel
theorem dX8_ends_109 : decode cX8_ends 109 = .ok (.aload_n 0, 1) := by decide +kernel
theorem dX8_ends_110 : decode cX8_ends 110 = .ok (.iload_n 1, 1) := by decide +kernel
theorem dX8_ends_111 : decode cX8_ends 111 = .ok (.iload_n 3, 1) := by decide +kernel
theorem dX8_ends_112 : decode cX8_ends 112 = .ok (.iload 4, 2) := by decide +kernel
theorem dX8_ends_114 : decode cX8_ends 114 = .ok (.invokevirtual 166, 3) := by decide +kernel
theorem dX8_ends_117 : decode cX8_ends 117 = .ok (.ifCond .eq 22, 3) := by decide +kernel
theorem dX8_ends_120 : decode cX8_ends 120 = .ok (.aload_n 0, 1) := by decide +kernel
theorem dX8_ends_121 : decode cX8_ends 121 = .ok (.iload_n 1, 1) := by decide +kernel
theorem dX8_ends_122 : decode cX8_ends 122 = .ok (.iconst 1, 1) := by decide +kernel
theorem dX8_ends_123 : decode cX8_ends 123 = .ok (.iadd, 1) := by decide +kernel
theorem dX8_ends_124 : decode cX8_ends 124 = .ok (.iload_n 2, 1) := by decide +kernel
theorem dX8_ends_125 : decode cX8_ends 125 = .ok (.iconst 1, 1) := by decide +kernel
theorem dX8_ends_126 : decode cX8_ends 126 = .ok (.iload_n 3, 1) := by decide +kernel
theorem dX8_ends_127 : decode cX8_ends 127 = .ok (.ishl, 1) := by decide +kernel
theorem dX8_ends_128 : decode cX8_ends 128 = .ok (.iconst (-1), 1) := by decide +kernel
theorem dX8_ends_129 : decode cX8_ends 129 = .ok (.ixor, 1) := by decide +kernel
theorem dX8_ends_130 : decode cX8_ends 130 = .ok (.iand, 1) := by decide +kernel
theorem dX8_ends_131 : decode cX8_ends 131 = .ok (.invokevirtual 170, 3) := by decide +kernel
theorem dX8_ends_134 : decode cX8_ends 134 = .ok (.ifCond .eq 5, 3) := by decide +kernel
theorem dX8_ends_137 : decode cX8_ends 137 = .ok (.iconst 1, 1) := by decide +kernel
theorem dX8_ends_138 : decode cX8_ends 138 = .ok (.ireturn, 1) := by decide +kernel
theorem dX8_ends_139 : decode cX8_ends 139 = .ok (.iinc 4 1, 3) := by decide +kernel
theorem dX8_ends_142 : decode cX8_ends 142 = .ok (.goto (-63), 3) := by decide +kernel
theorem dX8_ends_145 : decode cX8_ends 145 = .ok (.iconst 0, 1) := by decide +kernel
theorem dX8_ends_146 : decode cX8_ends 146 = .ok (.ireturn, 1) := by decide +kernel
def f_X8_ends (N : Nat) : Nat → Int32 → Int32 → Mem → Option (Int32 × Mem)
  | 0, _, _, _ => none
  | dd + 1, x1, x2, M => lp (fun (k5 : (Int32 × Int32) → Option (Int32 × Mem)) (a5 : Int32 × Int32) => if (M.1 0 0) ≤ a5.2 then (if a5.1 = (-1 : Int32) then (some ((1 : Int32), M)) else (lp (fun (k79 : (Int32 × Mem) → Option (Int32 × Mem)) (a79 : Int32 × Mem) => if (a79.2.1 0 12) ≤ a79.1 then (some ((0 : Int32), a79.2)) else (ck (inb (((6 : Int32) * x1) + a5.1) 42) (jn (fun (a139 : Mem) => nm (a79.1 + (1 : Int32)) (fun v1 => k79 (v1, a139))) (fun (k139 : Mem → Option (Int32 × Mem)) => if (lg_cmp (((a79.2.2 6 (((6 : Int32) * x1) + a5.1).toNatClampNeg) >>> (a79.1.toInt64 &&& 63)) &&& (1 : Int64)) (1 : Int64)) = 0 then (bd (f_X8_narrows N x1 a5.1 a79.1 a79.2) (fun w4 => if w4.1 = 0 then (k139 w4.2) else (bd (f_X8_ends N dd (x1 + (1 : Int32)) (x2 &&& (((1 : Int32) <<< (a5.1 &&& 31)) ^^^ (-1 : Int32))) w4.2) (fun w7 => if w7.1 = 0 then (k139 w7.2) else (some ((1 : Int32), w7.2)))))) else (k139 a79.2))))) N ((0 : Int32), M))) else (bd (f_X8_has N x2 a5.2 M) (fun v8 => jn (fun (a63 : Int32) => nm (a5.2 + (1 : Int32)) (fun v10 => k5 (a63, v10))) (fun (k63 : Int32 → Option (Int32 × Mem)) => if v8 = 0 then (k63 a5.1) else (jn (fun (a60 : Unit) => k63 a5.2) (fun (k60 : Unit → Option (Int32 × Mem)) => if a5.1 = (-1 : Int32) then (k60 ()) else (ck (inb (((6 : Int32) * x1) + a5.2) 42) (bd (f_X8_bits N (M.2 6 (((6 : Int32) * x1) + a5.2).toNatClampNeg) M) (fun v11 => ck (inb (((6 : Int32) * x1) + a5.1) 42) (bd (f_X8_bits N (M.2 6 (((6 : Int32) * x1) + a5.1).toNatClampNeg) M) (fun v13 => if v13 ≤ v11 then (k63 a5.1) else (k60 ())))))))))))) N ((-1 : Int32), (0 : Int32))
set_option maxRecDepth 100000 in
set_option maxHeartbeats 4000000 in
theorem c_X8_ends {l : Launch} {D : va_G} {ac : Nat → ClassId} {A : Nat → Prop} {ad : Nat → Nat} {rest : va_W} (N : Nat) : ∀ (dd : Nat) (x1 : Int32) (x2 : Int32)  (M : Mem) (r0 : Int32) (M0 : Mem), f_X8_ends N dd x1 x2 M = some (r0, M0) → CtI l D ac A tabM ad rest yX8_ends cX8_ends 5 .boolean (4 + dd) [.ref (ad 0), .int x1, .int x2] M r0 M0 := by
  intro dd
  induction dd with
  | zero => intro x1 x2  M r0 M0 hf; cases hf
  | succ dd ih =>
  intro x1 x2  M r0 M0 hf
  refine ct_ofI (own := RX8) (by decide +kernel) rfl (Nat.le_of_ble_eq_true rfl) ?_
  intro p e s m args below meth c C
  unfold f_X8_ends at hf
  refine a_L (L' := [(0, .ref (ad 0)), (1, .int x1), (2, .int x2)]) rfl ?_
  refine a_iconst (pc := 0) (v := (-1)) C dX8_ends_0 (by decide) ?_
  refine a_istore_n (pc := 1) [(3, .int (-1 : Int32)), (0, .ref (ad 0)), (1, .int x1), (2, .int x2)] C dX8_ends_1 (by decide) rfl ?_
  refine a_iconst (pc := 2) (v := 0) C dX8_ends_2 (by decide) ?_
  refine a_istore (pc := 3) [(4, .int (0 : Int32)), (3, .int (-1 : Int32)), (0, .ref (ad 0)), (1, .int x1), (2, .int x2)] C dX8_ends_3 (by decide) rfl ?_
  refine a_sub [2, 3, 4, 1, 0] rfl ?_
  refine a_lp 5 (fun a5 : Int32 × Int32 => [(0, .ref (ad 0)), (1, .int x1), (2, .int x2), (3, .int a5.1), (4, .int a5.2)]) (fun a5 : Int32 × Int32 => []) (fun a5 : Int32 × Int32 => M) (fun k5 a5 hk5 hf => ?_) N ((-1 : Int32), (0 : Int32)) hf
  refine a_iload (pc := 5) C dX8_ends_5 4 rfl ?_
  refine a_aload_n (pc := 7) C dX8_ends_7 0 rfl ?_
  refine a_getI (pc := 8) C dX8_ends_8 fl_X8_95 tm_0 rfl ?_
  refine a_icmp_ge (pc := 11) 69 C dX8_ends_11 (by decide) hf (fun hf => ?_) (fun hf => ?_)
  · refine a_iload_n (pc := 69) C dX8_ends_69 3 rfl ?_
    refine a_iconst (pc := 70) (v := (-1)) C dX8_ends_70 (by decide) ?_
    refine a_icmp_ne (pc := 71) 76 C dX8_ends_71 (by decide) hf (fun hf => ?_) (fun hf => ?_)
    · refine a_iconst (pc := 76) (v := 0) C dX8_ends_76 (by decide) ?_
      refine a_istore (pc := 77) [(4, .int (0 : Int32)), (0, .ref (ad 0)), (1, .int x1), (2, .int x2), (3, .int a5.1)] C dX8_ends_77 (by decide) rfl ?_
      refine a_sub [1, 2, 3, 4, 0] rfl ?_
      refine a_lp 79 (fun a79 : Int32 × Mem => [(0, .ref (ad 0)), (1, .int x1), (2, .int x2), (3, .int a5.1), (4, .int a79.1)]) (fun a79 : Int32 × Mem => []) (fun a79 : Int32 × Mem => a79.2) (fun k79 a79 hk79 hf => ?_) N ((0 : Int32), M) hf
      refine a_iload (pc := 79) C dX8_ends_79 4 rfl ?_
      refine a_aload_n (pc := 81) C dX8_ends_81 0 rfl ?_
      refine a_getI (pc := 82) C dX8_ends_82 fl_X8_148 tm_0 rfl ?_
      refine a_icmp_ge (pc := 85) 145 C dX8_ends_85 (by decide) hf (fun hf => ?_) (fun hf => ?_)
      · refine a_iconst (pc := 145) (v := 0) C dX8_ends_145 (by decide) ?_
        exact a_zret (pc := 146) C dX8_ends_146 (Or.inl rfl) (so_1 hf) (so_2 hf)
      · refine a_aload_n (pc := 88) C dX8_ends_88 0 rfl ?_
        refine a_getR (pc := 89) C dX8_ends_89 fl_X8_35 tm_0 rfl ?_
        refine a_bipush (pc := 92) (v := 6) C dX8_ends_92 (by decide) ?_
        refine a_iload_n (pc := 94) C dX8_ends_94 1 rfl ?_
        refine a_imul (pc := 95) C dX8_ends_95 ?_
        refine a_iload_n (pc := 96) C dX8_ends_96 3 rfl ?_
        refine a_iadd (pc := 97) C dX8_ends_97 ?_
        refine a_lald (pc := 98) C dX8_ends_98 tm_6 hf (fun hf => ?_)
        refine a_iload (pc := 99) C dX8_ends_99 4 rfl ?_
        refine a_lshr (pc := 101) C dX8_ends_101 ?_
        refine a_lconst (pc := 102) (v := 1) C dX8_ends_102 (by decide) ?_
        refine a_land (pc := 103) C dX8_ends_103 ?_
        refine a_lconst (pc := 104) (v := 1) C dX8_ends_104 (by decide) ?_
        refine a_lcmp (pc := 105) C dX8_ends_105 ?_
        refine a_jn 139 (fun a139 : Mem => [(0, .ref (ad 0)), (1, .int x1), (2, .int x2), (3, .int a5.1), (4, .int a79.1)]) (fun a139 : Mem => []) (fun a139 : Mem => a139) hf (fun a139 hf => ?_) (fun k139 hk139 hf => ?_)
        · refine a_iinc (pc := 139) (v := 1) (fun v1 => [(4, .int v1), (0, .ref (ad 0)), (1, .int x1), (2, .int x2), (3, .int a5.1)]) C dX8_ends_139 4 rfl (by decide) (by decide) (fun _ => rfl) hf (fun v1 hf => ?_)
          refine a_goto (pc := 142) 79 C dX8_ends_142 (by decide) ?_
          exact a_sub [1, 2, 3, 4, 0] rfl (hk79 (v1, a139) hf)
        · refine a_if_ne (pc := 106) 139 C dX8_ends_106 (by decide) hf (fun hf => ?_) (fun hf => ?_)
          · exact a_sub [0, 1, 2, 3, 4] rfl (hk139 a79.2 hf)
          · refine a_aload_n (pc := 109) C dX8_ends_109 0 rfl ?_
            refine a_iload_n (pc := 110) C dX8_ends_110 1 rfl ?_
            refine a_iload_n (pc := 111) C dX8_ends_111 3 rfl ?_
            refine a_iload (pc := 112) C dX8_ends_112 4 rfl ?_
            refine a_callV_I (pc := 114) (d' := 3) C dX8_ends_114 ml_X8_166 mc_X8_narrows mv_X8_narrows tm_0 rfl [.int x1, .int a5.1, .int a79.1] rfl (by omega) (Nat.le_of_ble_eq_true rfl) rfl (Nat.le_of_ble_eq_true rfl) (fun r M' h => c_X8_narrows N x1 a5.1 a79.1  _  r M' h) hf (fun v2 M3 hf => ?_)
            refine a_if_eq (pc := 117) 139 C dX8_ends_117 (by decide) hf (fun hf => ?_) (fun hf => ?_)
            · exact a_sub [0, 1, 2, 3, 4] rfl (hk139 M3 hf)
            · refine a_aload_n (pc := 120) C dX8_ends_120 0 rfl ?_
              refine a_iload_n (pc := 121) C dX8_ends_121 1 rfl ?_
              refine a_iconst (pc := 122) (v := 1) C dX8_ends_122 (by decide) ?_
              refine a_iadd (pc := 123) C dX8_ends_123 ?_
              refine a_iload_n (pc := 124) C dX8_ends_124 2 rfl ?_
              refine a_iconst (pc := 125) (v := 1) C dX8_ends_125 (by decide) ?_
              refine a_iload_n (pc := 126) C dX8_ends_126 3 rfl ?_
              refine a_ishl (pc := 127) C dX8_ends_127 ?_
              refine a_iconst (pc := 128) (v := (-1)) C dX8_ends_128 (by decide) ?_
              refine a_ixor (pc := 129) C dX8_ends_129 ?_
              refine a_iand (pc := 130) C dX8_ends_130 ?_
              refine a_callV_I (pc := 131) (d' := (4 + dd)) C dX8_ends_131 ml_X8_170 mc_X8_ends mv_X8_ends tm_0 rfl [.int (x1 + (1 : Int32)), .int (x2 &&& (((1 : Int32) <<< (a5.1 &&& 31)) ^^^ (-1 : Int32)))] rfl (by omega) (Nat.le_of_ble_eq_true rfl) rfl (Nat.le_of_ble_eq_true rfl) (fun r M' h => ih (x1 + (1 : Int32)) (x2 &&& (((1 : Int32) <<< (a5.1 &&& 31)) ^^^ (-1 : Int32)))  _  r M' h) hf (fun v5 M6 hf => ?_)
              refine a_if_eq (pc := 134) 139 C dX8_ends_134 (by decide) hf (fun hf => ?_) (fun hf => ?_)
              · exact a_sub [0, 1, 2, 3, 4] rfl (hk139 M6 hf)
              · refine a_iconst (pc := 137) (v := 1) C dX8_ends_137 (by decide) ?_
                exact a_zret (pc := 138) C dX8_ends_138 (Or.inr rfl) (so_1 hf) (so_2 hf)
    · refine a_iconst (pc := 74) (v := 1) C dX8_ends_74 (by decide) ?_
      exact a_zret (pc := 75) C dX8_ends_75 (Or.inr rfl) (so_1 hf) (so_2 hf)
  · refine a_iload_n (pc := 14) C dX8_ends_14 2 rfl ?_
    refine a_iload (pc := 15) C dX8_ends_15 4 rfl ?_
    refine a_callS_Ir (pc := 17) (d' := 1) C dX8_ends_17 ml_X8_158 mc_X8_has ms_X8_has [.int x2, .int a5.2] rfl (by omega) (Nat.le_of_ble_eq_true rfl) rfl (Nat.le_of_ble_eq_true rfl) (fun r h => c_X8_has N x2 a5.2  _  r h) hf (fun v8 hf => ?_)
    refine a_jn 63 (fun a63 : Int32 => [(0, .ref (ad 0)), (1, .int x1), (2, .int x2), (3, .int a63), (4, .int a5.2)]) (fun a63 : Int32 => []) (fun a63 : Int32 => M) hf (fun a63 hf => ?_) (fun k63 hk63 hf => ?_)
    · refine a_iinc (pc := 63) (v := 1) (fun v10 => [(4, .int v10), (0, .ref (ad 0)), (1, .int x1), (2, .int x2), (3, .int a63)]) C dX8_ends_63 4 rfl (by decide) (by decide) (fun _ => rfl) hf (fun v10 hf => ?_)
      refine a_goto (pc := 66) 5 C dX8_ends_66 (by decide) ?_
      exact a_sub [1, 2, 3, 4, 0] rfl (hk5 (a63, v10) hf)
    · refine a_if_eq (pc := 20) 63 C dX8_ends_20 (by decide) hf (fun hf => ?_) (fun hf => ?_)
      · exact a_sub [0, 1, 2, 3, 4] rfl (hk63 a5.1 hf)
      · refine a_iload_n (pc := 23) C dX8_ends_23 3 rfl ?_
        refine a_iconst (pc := 24) (v := (-1)) C dX8_ends_24 (by decide) ?_
        refine a_jn 60 (fun a60 : Unit => [(0, .ref (ad 0)), (1, .int x1), (2, .int x2), (4, .int a5.2)]) (fun a60 : Unit => []) (fun a60 : Unit => M) hf (fun a60 hf => ?_) (fun k60 hk60 hf => ?_)
        · refine a_iload (pc := 60) C dX8_ends_60 3 rfl ?_
          refine a_istore_n (pc := 62) [(3, .int a5.2), (0, .ref (ad 0)), (1, .int x1), (2, .int x2), (4, .int a5.2)] C dX8_ends_62 (by decide) rfl ?_
          exact a_sub [1, 2, 3, 0, 4] rfl (hk63 a5.2 hf)
        · refine a_icmp_eq (pc := 25) 60 C dX8_ends_25 (by decide) hf (fun hf => ?_) (fun hf => ?_)
          · exact a_sub [0, 1, 2, 4] rfl (hk60 () hf)
          · refine a_aload_n (pc := 28) C dX8_ends_28 0 rfl ?_
            refine a_getR (pc := 29) C dX8_ends_29 fl_X8_35 tm_0 rfl ?_
            refine a_bipush (pc := 32) (v := 6) C dX8_ends_32 (by decide) ?_
            refine a_iload_n (pc := 34) C dX8_ends_34 1 rfl ?_
            refine a_imul (pc := 35) C dX8_ends_35 ?_
            refine a_iload (pc := 36) C dX8_ends_36 4 rfl ?_
            refine a_iadd (pc := 38) C dX8_ends_38 ?_
            refine a_lald (pc := 39) C dX8_ends_39 tm_6 hf (fun hf => ?_)
            refine a_callS_Ir (pc := 40) (d' := 1) C dX8_ends_40 ml_X8_162 mc_X8_bits ms_X8_bits [.long (M.2 6 (((6 : Int32) * x1) + a5.2).toNatClampNeg)] rfl (by omega) (Nat.le_of_ble_eq_true rfl) rfl (Nat.le_of_ble_eq_true rfl) (fun r h => c_X8_bits N (M.2 6 (((6 : Int32) * x1) + a5.2).toNatClampNeg)  _  r h) hf (fun v11 hf => ?_)
            refine a_aload_n (pc := 43) C dX8_ends_43 0 rfl ?_
            refine a_getR (pc := 44) C dX8_ends_44 fl_X8_35 tm_0 rfl ?_
            refine a_bipush (pc := 47) (v := 6) C dX8_ends_47 (by decide) ?_
            refine a_iload_n (pc := 49) C dX8_ends_49 1 rfl ?_
            refine a_imul (pc := 50) C dX8_ends_50 ?_
            refine a_iload_n (pc := 51) C dX8_ends_51 3 rfl ?_
            refine a_iadd (pc := 52) C dX8_ends_52 ?_
            refine a_lald (pc := 53) C dX8_ends_53 tm_6 hf (fun hf => ?_)
            refine a_callS_Ir (pc := 54) (d' := 1) C dX8_ends_54 ml_X8_162 mc_X8_bits ms_X8_bits [.long (M.2 6 (((6 : Int32) * x1) + a5.1).toNatClampNeg)] rfl (by omega) (Nat.le_of_ble_eq_true rfl) rfl (Nat.le_of_ble_eq_true rfl) (fun r h => c_X8_bits N (M.2 6 (((6 : Int32) * x1) + a5.1).toNatClampNeg)  _  r h) hf (fun v13 hf => ?_)
            refine a_icmp_ge (pc := 57) 63 C dX8_ends_57 (by decide) hf (fun hf => ?_) (fun hf => ?_)
            · exact a_sub [0, 1, 2, 3, 4] rfl (hk63 a5.1 hf)
            · exact a_sub [0, 1, 2, 4] rfl (hk60 () hf)
theorem dX8_waysFrom_0 : decode cX8_waysFrom 0 = .ok (.iload_n 1, 1) := by decide +kernel
theorem dX8_waysFrom_1 : decode cX8_waysFrom 1 = .ok (.aload_n 0, 1) := by decide +kernel
theorem dX8_waysFrom_2 : decode cX8_waysFrom 2 = .ok (.getfield 95, 3) := by decide +kernel
theorem dX8_waysFrom_5 : decode cX8_waysFrom 5 = .ok (.if_icmp .ne 5, 3) := by decide +kernel
theorem dX8_waysFrom_8 : decode cX8_waysFrom 8 = .ok (.iconst 1, 1) := by decide +kernel
theorem dX8_waysFrom_9 : decode cX8_waysFrom 9 = .ok (.ireturn, 1) := by decide +kernel
theorem dX8_waysFrom_10 : decode cX8_waysFrom 10 = .ok (.iconst 0, 1) := by decide +kernel
theorem dX8_waysFrom_11 : decode cX8_waysFrom 11 = .ok (.istore_n 3, 1) := by decide +kernel
theorem dX8_waysFrom_12 : decode cX8_waysFrom 12 = .ok (.iconst 0, 1) := by decide +kernel
theorem dX8_waysFrom_13 : decode cX8_waysFrom 13 = .ok (.istore 4, 2) := by decide +kernel
theorem dX8_waysFrom_15 : decode cX8_waysFrom 15 = .ok (.iload 4, 2) := by decide +kernel
theorem dX8_waysFrom_17 : decode cX8_waysFrom 17 = .ok (.aload_n 0, 1) := by decide +kernel
theorem dX8_waysFrom_18 : decode cX8_waysFrom 18 = .ok (.getfield 148, 3) := by decide +kernel
theorem dX8_waysFrom_21 : decode cX8_waysFrom 21 = .ok (.if_icmp .ge 56, 3) := by decide +kernel
theorem dX8_waysFrom_24 : decode cX8_waysFrom 24 = .ok (.aload_n 0, 1) := by decide +kernel
theorem dX8_waysFrom_25 : decode cX8_waysFrom 25 = .ok (.getfield 38, 3) := by decide +kernel
theorem dX8_waysFrom_28 : decode cX8_waysFrom 28 = .ok (.iload_n 1, 1) := by decide +kernel
theorem dX8_waysFrom_29 : decode cX8_waysFrom 29 = .ok (.iload 4, 2) := by decide +kernel
theorem dX8_waysFrom_31 : decode cX8_waysFrom 31 = .ok (.iastore, 1) := by decide +kernel
theorem dX8_waysFrom_32 : decode cX8_waysFrom 32 = .ok (.iload_n 2, 1) := by decide +kernel
theorem dX8_waysFrom_33 : decode cX8_waysFrom 33 = .ok (.ifCond .eq 19, 3) := by decide +kernel
theorem dX8_waysFrom_36 : decode cX8_waysFrom 36 = .ok (.aload_n 0, 1) := by decide +kernel
theorem dX8_waysFrom_37 : decode cX8_waysFrom 37 = .ok (.getfield 28, 3) := by decide +kernel
theorem dX8_waysFrom_40 : decode cX8_waysFrom 40 = .ok (.iload_n 1, 1) := by decide +kernel
theorem dX8_waysFrom_41 : decode cX8_waysFrom 41 = .ok (.laload, 1) := by decide +kernel
theorem dX8_waysFrom_42 : decode cX8_waysFrom 42 = .ok (.iload 4, 2) := by decide +kernel
theorem dX8_waysFrom_44 : decode cX8_waysFrom 44 = .ok (.lshr, 1) := by decide +kernel
theorem dX8_waysFrom_45 : decode cX8_waysFrom 45 = .ok (.lconst 1, 1) := by decide +kernel
theorem dX8_waysFrom_46 : decode cX8_waysFrom 46 = .ok (.land, 1) := by decide +kernel
theorem dX8_waysFrom_47 : decode cX8_waysFrom 47 = .ok (.lconst 1, 1) := by decide +kernel
theorem dX8_waysFrom_48 : decode cX8_waysFrom 48 = .ok (.lcmp, 1) := by decide +kernel
theorem dX8_waysFrom_49 : decode cX8_waysFrom 49 = .ok (.ifCond .ne 22, 3) := by decide +kernel
theorem dX8_waysFrom_52 : decode cX8_waysFrom 52 = .ok (.aload_n 0, 1) := by decide +kernel
theorem dX8_waysFrom_53 : decode cX8_waysFrom 53 = .ok (.iload_n 1, 1) := by decide +kernel
theorem dX8_waysFrom_54 : decode cX8_waysFrom 54 = .ok (.invokevirtual 189, 3) := by decide +kernel
theorem dX8_waysFrom_57 : decode cX8_waysFrom 57 = .ok (.ifCond .eq 14, 3) := by decide +kernel
theorem dX8_waysFrom_60 : decode cX8_waysFrom 60 = .ok (.iload_n 3, 1) := by decide +kernel
theorem dX8_waysFrom_61 : decode cX8_waysFrom 61 = .ok (.aload_n 0, 1) := by decide +kernel
theorem dX8_waysFrom_62 : decode cX8_waysFrom 62 = .ok (.iload_n 1, 1) := by decide +kernel
theorem dX8_waysFrom_63 : decode cX8_waysFrom 63 = .ok (.iconst 1, 1) := by decide +kernel
theorem dX8_waysFrom_64 : decode cX8_waysFrom 64 = .ok (.iadd, 1) := by decide +kernel
theorem dX8_waysFrom_65 : decode cX8_waysFrom 65 = .ok (.iload_n 2, 1) := by decide +kernel
theorem dX8_waysFrom_66 : decode cX8_waysFrom 66 = .ok (.invokevirtual 192, 3) := by decide +kernel
theorem dX8_waysFrom_69 : decode cX8_waysFrom 69 = .ok (.iadd, 1) := by decide +kernel
theorem dX8_waysFrom_70 : decode cX8_waysFrom 70 = .ok (.istore_n 3, 1) := by decide +kernel
theorem dX8_waysFrom_71 : decode cX8_waysFrom 71 = .ok (.iinc 4 1, 3) := by decide +kernel
theorem dX8_waysFrom_74 : decode cX8_waysFrom 74 = .ok (.goto (-59), 3) := by decide +kernel
theorem dX8_waysFrom_77 : decode cX8_waysFrom 77 = .ok (.iload_n 3, 1) := by decide +kernel
theorem dX8_waysFrom_78 : decode cX8_waysFrom 78 = .ok (.ireturn, 1) := by decide +kernel
def f_X8_waysFrom (N : Nat) : Nat → Int32 → Int32 → Mem → Option (Int32 × Mem)
  | 0, _, _, _ => none
  | dd + 1, x1, x2, M => if x1 = (M.1 0 0) then (some ((1 : Int32), M)) else (lp (fun (k15 : (Int32 × Int32 × Mem) → Option (Int32 × Mem)) (a15 : Int32 × Int32 × Mem) => if (a15.2.2.1 0 12) ≤ a15.2.1 then (some (a15.1, a15.2.2)) else (ck (inb x1 6) (nm (setI a15.2.2 7 x1.toNatClampNeg a15.2.1) (fun M1 => jn (fun (a71 : Int32 × Mem) => nm (a15.2.1 + (1 : Int32)) (fun v2 => k15 (a71.1, v2, a71.2))) (fun (k71 : (Int32 × Mem) → Option (Int32 × Mem)) => jn (fun (a52 : Unit) => bd (f_X8_isFarEnough N x1 M1) (fun v3 => if v3 = 0 then (k71 (a15.1, M1)) else (bd (f_X8_waysFrom N dd (x1 + (1 : Int32)) x2 M1) (fun w7 => nm (a15.1 + w7.1) (fun v8 => k71 (v8, w7.2)))))) (fun (k52 : Unit → Option (Int32 × Mem)) => if x2 = 0 then (k52 ()) else (ck (inb x1 6) (if (lg_cmp (((M1.2 5 x1.toNatClampNeg) >>> (a15.2.1.toInt64 &&& 63)) &&& (1 : Int64)) (1 : Int64)) = 0 then (k52 ()) else (k71 (a15.1, M1)))))))))) N ((0 : Int32), (0 : Int32), M))
set_option maxRecDepth 100000 in
set_option maxHeartbeats 4000000 in
theorem c_X8_waysFrom {l : Launch} {D : va_G} {ac : Nat → ClassId} {A : Nat → Prop} {ad : Nat → Nat} {rest : va_W} (N : Nat) : ∀ (dd : Nat) (x1 : Int32) (x2 : Int32)  (M : Mem) (r0 : Int32) (M0 : Mem), f_X8_waysFrom N dd x1 x2 M = some (r0, M0) → CtI l D ac A tabM ad rest yX8_waysFrom cX8_waysFrom 5 .int (4 + dd) [.ref (ad 0), .int x1, .int x2] M r0 M0 := by
  intro dd
  induction dd with
  | zero => intro x1 x2  M r0 M0 hf; cases hf
  | succ dd ih =>
  intro x1 x2  M r0 M0 hf
  refine ct_ofI (own := RX8) (by decide +kernel) rfl (Nat.le_of_ble_eq_true rfl) ?_
  intro p e s m args below meth c C
  unfold f_X8_waysFrom at hf
  refine a_L (L' := [(0, .ref (ad 0)), (1, .int x1), (2, .int x2)]) rfl ?_
  refine a_iload_n (pc := 0) C dX8_waysFrom_0 1 rfl ?_
  refine a_aload_n (pc := 1) C dX8_waysFrom_1 0 rfl ?_
  refine a_getI (pc := 2) C dX8_waysFrom_2 fl_X8_95 tm_0 rfl ?_
  refine a_icmp_ne (pc := 5) 10 C dX8_waysFrom_5 (by decide) hf (fun hf => ?_) (fun hf => ?_)
  · refine a_iconst (pc := 10) (v := 0) C dX8_waysFrom_10 (by decide) ?_
    refine a_istore_n (pc := 11) [(3, .int (0 : Int32)), (0, .ref (ad 0)), (1, .int x1), (2, .int x2)] C dX8_waysFrom_11 (by decide) rfl ?_
    refine a_iconst (pc := 12) (v := 0) C dX8_waysFrom_12 (by decide) ?_
    refine a_istore (pc := 13) [(4, .int (0 : Int32)), (3, .int (0 : Int32)), (0, .ref (ad 0)), (1, .int x1), (2, .int x2)] C dX8_waysFrom_13 (by decide) rfl ?_
    refine a_sub [2, 3, 4, 1, 0] rfl ?_
    refine a_lp 15 (fun a15 : Int32 × Int32 × Mem => [(0, .ref (ad 0)), (1, .int x1), (2, .int x2), (3, .int a15.1), (4, .int a15.2.1)]) (fun a15 : Int32 × Int32 × Mem => []) (fun a15 : Int32 × Int32 × Mem => a15.2.2) (fun k15 a15 hk15 hf => ?_) N ((0 : Int32), (0 : Int32), M) hf
    refine a_iload (pc := 15) C dX8_waysFrom_15 4 rfl ?_
    refine a_aload_n (pc := 17) C dX8_waysFrom_17 0 rfl ?_
    refine a_getI (pc := 18) C dX8_waysFrom_18 fl_X8_148 tm_0 rfl ?_
    refine a_icmp_ge (pc := 21) 77 C dX8_waysFrom_21 (by decide) hf (fun hf => ?_) (fun hf => ?_)
    · refine a_iload_n (pc := 77) C dX8_waysFrom_77 3 rfl ?_
      exact a_iret (pc := 78) C dX8_waysFrom_78 (so_1 hf) (so_2 hf)
    · refine a_aload_n (pc := 24) C dX8_waysFrom_24 0 rfl ?_
      refine a_getR (pc := 25) C dX8_waysFrom_25 fl_X8_38 tm_0 rfl ?_
      refine a_iload_n (pc := 28) C dX8_waysFrom_28 1 rfl ?_
      refine a_iload (pc := 29) C dX8_waysFrom_29 4 rfl ?_
      refine a_iast (pc := 31) C dX8_waysFrom_31 tm_7 hf (fun M1 hf => ?_)
      refine a_iload_n (pc := 32) C dX8_waysFrom_32 2 rfl ?_
      refine a_jn 71 (fun a71 : Int32 × Mem => [(0, .ref (ad 0)), (1, .int x1), (2, .int x2), (3, .int a71.1), (4, .int a15.2.1)]) (fun a71 : Int32 × Mem => []) (fun a71 : Int32 × Mem => a71.2) hf (fun a71 hf => ?_) (fun k71 hk71 hf => ?_)
      · refine a_iinc (pc := 71) (v := 1) (fun v2 => [(4, .int v2), (0, .ref (ad 0)), (1, .int x1), (2, .int x2), (3, .int a71.1)]) C dX8_waysFrom_71 4 rfl (by decide) (by decide) (fun _ => rfl) hf (fun v2 hf => ?_)
        refine a_goto (pc := 74) 15 C dX8_waysFrom_74 (by decide) ?_
        exact a_sub [1, 2, 3, 4, 0] rfl (hk15 (a71.1, v2, a71.2) hf)
      · refine a_jn 52 (fun a52 : Unit => [(0, .ref (ad 0)), (1, .int x1), (2, .int x2), (3, .int a15.1), (4, .int a15.2.1)]) (fun a52 : Unit => []) (fun a52 : Unit => M1) hf (fun a52 hf => ?_) (fun k52 hk52 hf => ?_)
        · refine a_aload_n (pc := 52) C dX8_waysFrom_52 0 rfl ?_
          refine a_iload_n (pc := 53) C dX8_waysFrom_53 1 rfl ?_
          refine a_callV_Ir (pc := 54) (d' := 3) C dX8_waysFrom_54 ml_X8_189 mc_X8_isFarEnough mv_X8_isFarEnough tm_0 rfl [.int x1] rfl (by omega) (Nat.le_of_ble_eq_true rfl) rfl (Nat.le_of_ble_eq_true rfl) (fun r h => c_X8_isFarEnough N x1  _  r h) hf (fun v3 hf => ?_)
          refine a_if_eq (pc := 57) 71 C dX8_waysFrom_57 (by decide) hf (fun hf => ?_) (fun hf => ?_)
          · exact a_sub [0, 1, 2, 3, 4] rfl (hk71 (a15.1, M1) hf)
          · refine a_iload_n (pc := 60) C dX8_waysFrom_60 3 rfl ?_
            refine a_aload_n (pc := 61) C dX8_waysFrom_61 0 rfl ?_
            refine a_iload_n (pc := 62) C dX8_waysFrom_62 1 rfl ?_
            refine a_iconst (pc := 63) (v := 1) C dX8_waysFrom_63 (by decide) ?_
            refine a_iadd (pc := 64) C dX8_waysFrom_64 ?_
            refine a_iload_n (pc := 65) C dX8_waysFrom_65 2 rfl ?_
            refine a_callV_I (pc := 66) (d' := (4 + dd)) C dX8_waysFrom_66 ml_X8_192 mc_X8_waysFrom mv_X8_waysFrom tm_0 rfl [.int (x1 + (1 : Int32)), .int x2] rfl (by omega) (Nat.le_of_ble_eq_true rfl) rfl (Nat.le_of_ble_eq_true rfl) (fun r M' h => ih (x1 + (1 : Int32)) x2  _  r M' h) hf (fun v5 M6 hf => ?_)
            refine a_iadd (pc := 69) C dX8_waysFrom_69 ?_
            refine a_nmi hf (fun v8 hf => ?_)
            refine a_istore_n (pc := 70) [(3, .int v8), (0, .ref (ad 0)), (1, .int x1), (2, .int x2), (4, .int a15.2.1)] C dX8_waysFrom_70 (by decide) rfl ?_
            exact a_sub [1, 2, 3, 0, 4] rfl (hk71 (v8, M6) hf)
        · refine a_if_eq (pc := 33) 52 C dX8_waysFrom_33 (by decide) hf (fun hf => ?_) (fun hf => ?_)
          · exact a_sub [0, 1, 2, 3, 4] rfl (hk52 () hf)
          · refine a_aload_n (pc := 36) C dX8_waysFrom_36 0 rfl ?_
            refine a_getR (pc := 37) C dX8_waysFrom_37 fl_X8_28 tm_0 rfl ?_
            refine a_iload_n (pc := 40) C dX8_waysFrom_40 1 rfl ?_
            refine a_lald (pc := 41) C dX8_waysFrom_41 tm_5 hf (fun hf => ?_)
            refine a_iload (pc := 42) C dX8_waysFrom_42 4 rfl ?_
            refine a_lshr (pc := 44) C dX8_waysFrom_44 ?_
            refine a_lconst (pc := 45) (v := 1) C dX8_waysFrom_45 (by decide) ?_
            refine a_land (pc := 46) C dX8_waysFrom_46 ?_
            refine a_lconst (pc := 47) (v := 1) C dX8_waysFrom_47 (by decide) ?_
            refine a_lcmp (pc := 48) C dX8_waysFrom_48 ?_
            refine a_if_ne (pc := 49) 71 C dX8_waysFrom_49 (by decide) hf (fun hf => ?_) (fun hf => ?_)
            · exact a_sub [0, 1, 2, 3, 4] rfl (hk71 (a15.1, M1) hf)
            · exact a_sub [0, 1, 2, 3, 4] rfl (hk52 () hf)
  · refine a_iconst (pc := 8) (v := 1) C dX8_waysFrom_8 (by decide) ?_
    exact a_iret (pc := 9) C dX8_waysFrom_9 (so_1 hf) (so_2 hf)
theorem dX7_ways_0 : decode cX7_ways 0 = .ok (.iload_n 1, 1) := by decide +kernel
theorem dX7_ways_1 : decode cX7_ways 1 = .ok (.iconst 1, 1) := by decide +kernel
theorem dX7_ways_2 : decode cX7_ways 2 = .ok (.bipush 8, 2) := by decide +kernel
theorem dX7_ways_4 : decode cX7_ways 4 = .ok (.invokestatic 64, 3) := by decide +kernel
theorem dX7_ways_7 : decode cX7_ways 7 = .ok (.ifCond .eq 22, 3) := by decide +kernel
theorem dX7_ways_10 : decode cX7_ways 10 = .ok (.iload_n 2, 1) := by decide +kernel
theorem dX7_ways_11 : decode cX7_ways 11 = .ok (.iconst 1, 1) := by decide +kernel
theorem dX7_ways_12 : decode cX7_ways 12 = .ok (.bipush 6, 2) := by decide +kernel
theorem dX7_ways_14 : decode cX7_ways 14 = .ok (.invokestatic 64, 3) := by decide +kernel
theorem dX7_ways_17 : decode cX7_ways 17 = .ok (.ifCond .eq 12, 3) := by decide +kernel
theorem dX7_ways_20 : decode cX7_ways 20 = .ok (.iload_n 3, 1) := by decide +kernel
theorem dX7_ways_21 : decode cX7_ways 21 = .ok (.iconst 0, 1) := by decide +kernel
theorem dX7_ways_22 : decode cX7_ways 22 = .ok (.iconst 1, 1) := by decide +kernel
theorem dX7_ways_23 : decode cX7_ways 23 = .ok (.invokestatic 64, 3) := by decide +kernel
theorem dX7_ways_26 : decode cX7_ways 26 = .ok (.ifCond .ne 6, 3) := by decide +kernel
theorem dX7_ways_29 : decode cX7_ways 29 = .ok (.bipush (-2), 2) := by decide +kernel
theorem dX7_ways_31 : decode cX7_ways 31 = .ok (.ireturn, 1) := by decide +kernel
theorem dX7_ways_32 : decode cX7_ways 32 = .ok (.aload_n 0, 1) := by decide +kernel
theorem dX7_ways_33 : decode cX7_ways 33 = .ok (.getfield 32, 3) := by decide +kernel
theorem dX7_ways_36 : decode cX7_ways 36 = .ok (.aload_n 0, 1) := by decide +kernel
theorem dX7_ways_37 : decode cX7_ways 37 = .ok (.getfield 12, 3) := by decide +kernel
theorem dX7_ways_40 : decode cX7_ways 40 = .ok (.iload_n 1, 1) := by decide +kernel
theorem dX7_ways_41 : decode cX7_ways 41 = .ok (.iload_n 2, 1) := by decide +kernel
theorem dX7_ways_42 : decode cX7_ways 42 = .ok (.iload_n 3, 1) := by decide +kernel
theorem dX7_ways_43 : decode cX7_ways 43 = .ok (.invokevirtual 148, 3) := by decide +kernel
theorem dX7_ways_46 : decode cX7_ways 46 = .ok (.aload_n 0, 1) := by decide +kernel
theorem dX7_ways_47 : decode cX7_ways 47 = .ok (.getfield 32, 3) := by decide +kernel
theorem dX7_ways_50 : decode cX7_ways 50 = .ok (.aload_n 0, 1) := by decide +kernel
theorem dX7_ways_51 : decode cX7_ways 51 = .ok (.getfield 12, 3) := by decide +kernel
theorem dX7_ways_54 : decode cX7_ways 54 = .ok (.iload_n 3, 1) := by decide +kernel
theorem dX7_ways_55 : decode cX7_ways 55 = .ok (.invokevirtual 162, 3) := by decide +kernel
theorem dX7_ways_58 : decode cX7_ways 58 = .ok (.ireturn, 1) := by decide +kernel
def f_X7_ways (N : Nat) (x1 : Int32) (x2 : Int32) (x3 : Int32) (M : Mem) : Option (Int32 × Mem) := bd (f_X7_within N x1 (1 : Int32) (8 : Int32) M) (fun v1 => if v1 = 0 then (some ((-2 : Int32), M)) else (bd (f_X7_within N x2 (1 : Int32) (6 : Int32) M) (fun v3 => if v3 = 0 then (some ((-2 : Int32), M)) else (bd (f_X7_within N x3 (0 : Int32) (1 : Int32) M) (fun v5 => if v5 = 0 then (some ((-2 : Int32), M)) else (bd (f_X2_prepare N 1 x1 x2 x3 M) (fun M8 => bd (f_X2_countAll N 1 x3 M8) (fun w11 => some (w11.1, w11.2)))))))))
set_option maxRecDepth 100000 in
set_option maxHeartbeats 4000000 in
theorem c_X7_ways {l : Launch} {D : va_G} {ac : Nat → ClassId} {A : Nat → Prop} {ad : Nat → Nat} {rest : va_W} (N : Nat) (x1 : Int32) (x2 : Int32) (x3 : Int32)  (M : Mem) (r0 : Int32) (M0 : Mem) (hf : f_X7_ways N x1 x2 x3 M = some (r0, M0)) : CtI l D ac A tabX ad rest yX7_ways cX7_ways 4 .int 15 [.ref (ad 0), .int x1, .int x2, .int x3] M r0 M0 := by
  refine ct_ofI (own := RX7) (by decide +kernel) rfl (Nat.le_of_ble_eq_true rfl) ?_
  intro p e s m args below meth c C
  unfold f_X7_ways at hf
  refine a_L (L' := [(0, .ref (ad 0)), (1, .int x1), (2, .int x2), (3, .int x3)]) rfl ?_
  refine a_iload_n (pc := 0) C dX7_ways_0 1 rfl ?_
  refine a_iconst (pc := 1) (v := 1) C dX7_ways_1 (by decide) ?_
  refine a_bipush (pc := 2) (v := 8) C dX7_ways_2 (by decide) ?_
  refine a_callS_Ir (pc := 4) (d' := 1) C dX7_ways_4 ml_X7_64 mc_X7_within ms_X7_within [.int x1, .int (1 : Int32), .int (8 : Int32)] rfl (Nat.le_of_ble_eq_true rfl) (Nat.le_of_ble_eq_true rfl) rfl (Nat.le_of_ble_eq_true rfl) (fun r h => c_X7_within N x1 (1 : Int32) (8 : Int32)  _  r h) hf (fun v1 hf => ?_)
  refine a_if_eq (pc := 7) 29 C dX7_ways_7 (by decide) hf (fun hf => ?_) (fun hf => ?_)
  · refine a_bipush (pc := 29) (v := (-2)) C dX7_ways_29 (by decide) ?_
    exact a_iret (pc := 31) C dX7_ways_31 (so_1 hf) (so_2 hf)
  · refine a_iload_n (pc := 10) C dX7_ways_10 2 rfl ?_
    refine a_iconst (pc := 11) (v := 1) C dX7_ways_11 (by decide) ?_
    refine a_bipush (pc := 12) (v := 6) C dX7_ways_12 (by decide) ?_
    refine a_callS_Ir (pc := 14) (d' := 1) C dX7_ways_14 ml_X7_64 mc_X7_within ms_X7_within [.int x2, .int (1 : Int32), .int (6 : Int32)] rfl (Nat.le_of_ble_eq_true rfl) (Nat.le_of_ble_eq_true rfl) rfl (Nat.le_of_ble_eq_true rfl) (fun r h => c_X7_within N x2 (1 : Int32) (6 : Int32)  _  r h) hf (fun v3 hf => ?_)
    refine a_if_eq (pc := 17) 29 C dX7_ways_17 (by decide) hf (fun hf => ?_) (fun hf => ?_)
    · refine a_bipush (pc := 29) (v := (-2)) C dX7_ways_29 (by decide) ?_
      exact a_iret (pc := 31) C dX7_ways_31 (so_1 hf) (so_2 hf)
    · refine a_iload_n (pc := 20) C dX7_ways_20 3 rfl ?_
      refine a_iconst (pc := 21) (v := 0) C dX7_ways_21 (by decide) ?_
      refine a_iconst (pc := 22) (v := 1) C dX7_ways_22 (by decide) ?_
      refine a_callS_Ir (pc := 23) (d' := 1) C dX7_ways_23 ml_X7_64 mc_X7_within ms_X7_within [.int x3, .int (0 : Int32), .int (1 : Int32)] rfl (Nat.le_of_ble_eq_true rfl) (Nat.le_of_ble_eq_true rfl) rfl (Nat.le_of_ble_eq_true rfl) (fun r h => c_X7_within N x3 (0 : Int32) (1 : Int32)  _  r h) hf (fun v5 hf => ?_)
      refine a_if_ne (pc := 26) 32 C dX7_ways_26 (by decide) hf (fun hf => ?_) (fun hf => ?_)
      · refine a_aload_n (pc := 32) C dX7_ways_32 0 rfl ?_
        refine a_getR (pc := 33) C dX7_ways_33 fl_X7_32 tx_0 rfl ?_
        refine a_aload_n (pc := 36) C dX7_ways_36 0 rfl ?_
        refine a_getR (pc := 37) C dX7_ways_37 fl_X7_12 tx_0 rfl ?_
        refine a_iload_n (pc := 40) C dX7_ways_40 1 rfl ?_
        refine a_iload_n (pc := 41) C dX7_ways_41 2 rfl ?_
        refine a_iload_n (pc := 42) C dX7_ways_42 3 rfl ?_
        refine a_callV_V (pc := 43) (d' := 3) C dX7_ways_43 ml_X7_148 mc_X2_prepare mv_X2_prepare tx_26 rfl [.ref (ad 1), .int x1, .int x2, .int x3] rfl (Nat.le_of_ble_eq_true rfl) (Nat.le_of_ble_eq_true rfl) rfl (Nat.le_of_ble_eq_true rfl) (fun M' h => c_X2_prepare N 1 x1 x2 x3 net_1 _  M' h) hf (fun M8 hf => ?_)
        refine a_aload_n (pc := 46) C dX7_ways_46 0 rfl ?_
        refine a_getR (pc := 47) C dX7_ways_47 fl_X7_32 tx_0 rfl ?_
        refine a_aload_n (pc := 50) C dX7_ways_50 0 rfl ?_
        refine a_getR (pc := 51) C dX7_ways_51 fl_X7_12 tx_0 rfl ?_
        refine a_iload_n (pc := 54) C dX7_ways_54 3 rfl ?_
        refine a_callV_I (pc := 55) (d' := 14) C dX7_ways_55 ml_X7_162 mc_X2_countAll mv_X2_countAll tx_26 rfl [.ref (ad 1), .int x3] rfl (Nat.le_of_ble_eq_true rfl) (Nat.le_of_ble_eq_true rfl) rfl (Nat.le_of_ble_eq_true rfl) (fun r M' h => c_X2_countAll N 1 x3 net_1 _  r M' h) hf (fun v9 M10 hf => ?_)
        exact a_iret (pc := 58) C dX7_ways_58 (so_1 hf) (so_2 hf)
      · refine a_bipush (pc := 29) (v := (-2)) C dX7_ways_29 (by decide) ?_
        exact a_iret (pc := 31) C dX7_ways_31 (so_1 hf) (so_2 hf)
theorem dX8_colours_0 : decode cX8_colours 0 = .ok (.aload_n 0, 1) := by decide +kernel
theorem dX8_colours_1 : decode cX8_colours 1 = .ok (.iload_n 1, 1) := by decide +kernel
theorem dX8_colours_2 : decode cX8_colours 2 = .ok (.putfield 148, 3) := by decide +kernel
theorem dX8_colours_5 : decode cX8_colours 5 = .ok (.aload_n 0, 1) := by decide +kernel
theorem dX8_colours_6 : decode cX8_colours 6 = .ok (.iload_n 2, 1) := by decide +kernel
theorem dX8_colours_7 : decode cX8_colours 7 = .ok (.putfield 151, 3) := by decide +kernel
theorem dX8_colours_10 : decode cX8_colours 10 = .ok (.iconst 0, 1) := by decide +kernel
theorem dX8_colours_11 : decode cX8_colours 11 = .ok (.istore 4, 2) := by decide +kernel
theorem dX8_colours_13 : decode cX8_colours 13 = .ok (.iload 4, 2) := by decide +kernel
theorem dX8_colours_15 : decode cX8_colours 15 = .ok (.aload_n 0, 1) := by decide +kernel
theorem dX8_colours_16 : decode cX8_colours 16 = .ok (.getfield 95, 3) := by decide +kernel
theorem dX8_colours_19 : decode cX8_colours 19 = .ok (.if_icmp .ge 74, 3) := by decide +kernel
theorem dX8_colours_22 : decode cX8_colours 22 = .ok (.aload_n 0, 1) := by decide +kernel
theorem dX8_colours_23 : decode cX8_colours 23 = .ok (.iload 4, 2) := by decide +kernel
theorem dX8_colours_25 : decode cX8_colours 25 = .ok (.invokevirtual 173, 3) := by decide +kernel
theorem dX8_colours_28 : decode cX8_colours 28 = .ok (.iconst 1, 1) := by decide +kernel
theorem dX8_colours_29 : decode cX8_colours 29 = .ok (.iload 4, 2) := by decide +kernel
theorem dX8_colours_31 : decode cX8_colours 31 = .ok (.ishl, 1) := by decide +kernel
theorem dX8_colours_32 : decode cX8_colours 32 = .ok (.iconst 1, 1) := by decide +kernel
theorem dX8_colours_33 : decode cX8_colours 33 = .ok (.isub, 1) := by decide +kernel
theorem dX8_colours_34 : decode cX8_colours 34 = .ok (.iand, 1) := by decide +kernel
theorem dX8_colours_35 : decode cX8_colours 35 = .ok (.ifCond .ne 7, 3) := by decide +kernel
theorem dX8_colours_38 : decode cX8_colours 38 = .ok (.iconst 1, 1) := by decide +kernel
theorem dX8_colours_39 : decode cX8_colours 39 = .ok (.goto 4, 3) := by decide +kernel
theorem dX8_colours_42 : decode cX8_colours 42 = .ok (.iconst 0, 1) := by decide +kernel
theorem dX8_colours_43 : decode cX8_colours 43 = .ok (.istore 5, 2) := by decide +kernel
theorem dX8_colours_45 : decode cX8_colours 45 = .ok (.aload_n 0, 1) := by decide +kernel
theorem dX8_colours_46 : decode cX8_colours 46 = .ok (.getfield 35, 3) := by decide +kernel
theorem dX8_colours_49 : decode cX8_colours 49 = .ok (.iload 4, 2) := by decide +kernel
theorem dX8_colours_51 : decode cX8_colours 51 = .ok (.iload_n 3, 1) := by decide +kernel
theorem dX8_colours_52 : decode cX8_colours 52 = .ok (.iconst 1, 1) := by decide +kernel
theorem dX8_colours_53 : decode cX8_colours 53 = .ok (.if_icmp .ne 19, 3) := by decide +kernel
theorem dX8_colours_56 : decode cX8_colours 56 = .ok (.aload_n 0, 1) := by decide +kernel
theorem dX8_colours_57 : decode cX8_colours 57 = .ok (.getfield 28, 3) := by decide +kernel
theorem dX8_colours_60 : decode cX8_colours 60 = .ok (.iload 4, 2) := by decide +kernel
theorem dX8_colours_62 : decode cX8_colours 62 = .ok (.laload, 1) := by decide +kernel
theorem dX8_colours_63 : decode cX8_colours 63 = .ok (.lconst 1, 1) := by decide +kernel
theorem dX8_colours_64 : decode cX8_colours 64 = .ok (.iload_n 1, 1) := by decide +kernel
theorem dX8_colours_65 : decode cX8_colours 65 = .ok (.lshl, 1) := by decide +kernel
theorem dX8_colours_66 : decode cX8_colours 66 = .ok (.lconst 1, 1) := by decide +kernel
theorem dX8_colours_67 : decode cX8_colours 67 = .ok (.lsub, 1) := by decide +kernel
theorem dX8_colours_68 : decode cX8_colours 68 = .ok (.land, 1) := by decide +kernel
theorem dX8_colours_69 : decode cX8_colours 69 = .ok (.goto 17, 3) := by decide +kernel
theorem dX8_colours_72 : decode cX8_colours 72 = .ok (.iload 5, 2) := by decide +kernel
theorem dX8_colours_74 : decode cX8_colours 74 = .ok (.ifCond .eq 7, 3) := by decide +kernel
theorem dX8_colours_77 : decode cX8_colours 77 = .ok (.lconst 1, 1) := by decide +kernel
theorem dX8_colours_78 : decode cX8_colours 78 = .ok (.goto 8, 3) := by decide +kernel
theorem dX8_colours_81 : decode cX8_colours 81 = .ok (.lconst 1, 1) := by decide +kernel
theorem dX8_colours_82 : decode cX8_colours 82 = .ok (.iload_n 1, 1) := by decide +kernel
theorem dX8_colours_83 : decode cX8_colours 83 = .ok (.lshl, 1) := by decide +kernel
theorem dX8_colours_84 : decode cX8_colours 84 = .ok (.lconst 1, 1) := by decide +kernel
theorem dX8_colours_85 : decode cX8_colours 85 = .ok (.lsub, 1) := by decide +kernel
theorem dX8_colours_86 : decode cX8_colours 86 = .ok (.lastore, 1) := by decide +kernel
theorem dX8_colours_87 : decode cX8_colours 87 = .ok (.iinc 4 1, 3) := by decide +kernel
theorem dX8_colours_90 : decode cX8_colours 90 = .ok (.goto (-77), 3) := by decide +kernel
theorem dX8_colours_93 : decode cX8_colours 93 = .ok (.iconst 0, 1) := by decide +kernel
theorem dX8_colours_94 : decode cX8_colours 94 = .ok (.istore 4, 2) := by decide +kernel
theorem dX8_colours_96 : decode cX8_colours 96 = .ok (.iload 4, 2) := by decide +kernel
theorem dX8_colours_98 : decode cX8_colours 98 = .ok (.aload_n 0, 1) := by decide +kernel
theorem dX8_colours_99 : decode cX8_colours 99 = .ok (.getfield 95, 3) := by decide +kernel
theorem dX8_colours_102 : decode cX8_colours 102 = .ok (.if_icmp .ge 143, 3) := by decide +kernel
theorem dX8_colours_105 : decode cX8_colours 105 = .ok (.aload_n 0, 1) := by decide +kernel
theorem dX8_colours_106 : decode cX8_colours 106 = .ok (.iload 4, 2) := by decide +kernel
theorem dX8_colours_108 : decode cX8_colours 108 = .ok (.invokevirtual 173, 3) := by decide +kernel
theorem dX8_colours_111 : decode cX8_colours 111 = .ok (.iconst 2, 1) := by decide +kernel
theorem dX8_colours_112 : decode cX8_colours 112 = .ok (.iload 4, 2) := by decide +kernel
theorem dX8_colours_114 : decode cX8_colours 114 = .ok (.ishl, 1) := by decide +kernel
theorem dX8_colours_115 : decode cX8_colours 115 = .ok (.iconst 1, 1) := by decide +kernel
theorem dX8_colours_116 : decode cX8_colours 116 = .ok (.isub, 1) := by decide +kernel
theorem dX8_colours_117 : decode cX8_colours 117 = .ok (.iconst (-1), 1) := by decide +kernel
theorem dX8_colours_118 : decode cX8_colours 118 = .ok (.ixor, 1) := by decide +kernel
theorem dX8_colours_119 : decode cX8_colours 119 = .ok (.iand, 1) := by decide +kernel
theorem dX8_colours_120 : decode cX8_colours 120 = .ok (.istore 5, 2) := by decide +kernel
theorem dX8_colours_122 : decode cX8_colours 122 = .ok (.iconst 0, 1) := by decide +kernel
theorem dX8_colours_123 : decode cX8_colours 123 = .ok (.istore 6, 2) := by decide +kernel
theorem dX8_colours_125 : decode cX8_colours 125 = .ok (.iload 6, 2) := by decide +kernel
theorem dX8_colours_127 : decode cX8_colours 127 = .ok (.iload_n 1, 1) := by decide +kernel
theorem dX8_colours_128 : decode cX8_colours 128 = .ok (.if_icmp .ge 48, 3) := by decide +kernel
theorem dX8_colours_131 : decode cX8_colours 131 = .ok (.aload_n 0, 1) := by decide +kernel
theorem dX8_colours_132 : decode cX8_colours 132 = .ok (.getfield 35, 3) := by decide +kernel
theorem dX8_colours_135 : decode cX8_colours 135 = .ok (.iload 4, 2) := by decide +kernel
theorem dX8_colours_137 : decode cX8_colours 137 = .ok (.laload, 1) := by decide +kernel
theorem dX8_colours_138 : decode cX8_colours 138 = .ok (.iload 6, 2) := by decide +kernel
theorem dX8_colours_140 : decode cX8_colours 140 = .ok (.lshr, 1) := by decide +kernel
theorem dX8_colours_141 : decode cX8_colours 141 = .ok (.lconst 1, 1) := by decide +kernel
theorem dX8_colours_142 : decode cX8_colours 142 = .ok (.land, 1) := by decide +kernel
theorem dX8_colours_143 : decode cX8_colours 143 = .ok (.lconst 1, 1) := by decide +kernel
theorem dX8_colours_144 : decode cX8_colours 144 = .ok (.lcmp, 1) := by decide +kernel
theorem dX8_colours_145 : decode cX8_colours 145 = .ok (.ifCond .ne 25, 3) := by decide +kernel
theorem dX8_colours_148 : decode cX8_colours 148 = .ok (.aload_n 0, 1) := by decide +kernel
theorem dX8_colours_149 : decode cX8_colours 149 = .ok (.iconst 0, 1) := by decide +kernel
theorem dX8_colours_150 : decode cX8_colours 150 = .ok (.iload 4, 2) := by decide +kernel
theorem dX8_colours_152 : decode cX8_colours 152 = .ok (.iload 6, 2) := by decide +kernel
theorem dX8_colours_154 : decode cX8_colours 154 = .ok (.invokevirtual 166, 3) := by decide +kernel
theorem dX8_colours_157 : decode cX8_colours 157 = .ok (.ifCond .eq 13, 3) := by decide +kernel
theorem dX8_colours_160 : decode cX8_colours 160 = .ok (.aload_n 0, 1) := by decide +kernel
theorem dX8_colours_161 : decode cX8_colours 161 = .ok (.iconst 1, 1) := by decide +kernel
theorem dX8_colours_162 : decode cX8_colours 162 = .ok (.iload 5, 2) := by decide +kernel
theorem dX8_colours_164 : decode cX8_colours 164 = .ok (.invokevirtual 170, 3) := by decide +kernel
theorem dX8_colours_167 : decode cX8_colours 167 = .ok (.ifCond .ne 9, 3) := by decide +kernel
theorem dX8_colours_170 : decode cX8_colours 170 = .ok (.iinc 6 1, 3) := by decide +kernel
theorem dX8_colours_173 : decode cX8_colours 173 = .ok (.goto (-48), 3) := by decide +kernel
theorem dX8_colours_176 : decode cX8_colours 176 = .ok (.iload 6, 2) := by decide +kernel
theorem dX8_colours_178 : decode cX8_colours 178 = .ok (.iload_n 1, 1) := by decide +kernel
theorem dX8_colours_179 : decode cX8_colours 179 = .ok (.if_icmp .ne 5, 3) := by decide +kernel
theorem dX8_colours_182 : decode cX8_colours 182 = .ok (.iconst 0, 1) := by decide +kernel
theorem dX8_colours_183 : decode cX8_colours 183 = .ok (.ireturn, 1) := by decide +kernel
theorem dX8_colours_184 : decode cX8_colours 184 = .ok (.aload_n 0, 1) := by decide +kernel
theorem dX8_colours_185 : decode cX8_colours 185 = .ok (.iconst 0, 1) := by decide +kernel
theorem dX8_colours_186 : decode cX8_colours 186 = .ok (.iload 4, 2) := by decide +kernel
theorem dX8_colours_188 : decode cX8_colours 188 = .ok (.iload 6, 2) := by decide +kernel
theorem dX8_colours_190 : decode cX8_colours 190 = .ok (.invokevirtual 166, 3) := by decide +kernel
theorem dX8_colours_193 : decode cX8_colours 193 = .ok (.istore 7, 2) := by decide +kernel
theorem dX8_colours_195 : decode cX8_colours 195 = .ok (.iconst 0, 1) := by decide +kernel
theorem dX8_colours_196 : decode cX8_colours 196 = .ok (.istore 8, 2) := by decide +kernel
theorem dX8_colours_198 : decode cX8_colours 198 = .ok (.iload 8, 2) := by decide +kernel
theorem dX8_colours_200 : decode cX8_colours 200 = .ok (.aload_n 0, 1) := by decide +kernel
theorem dX8_colours_201 : decode cX8_colours 201 = .ok (.getfield 95, 3) := by decide +kernel
theorem dX8_colours_204 : decode cX8_colours 204 = .ok (.if_icmp .ge 26, 3) := by decide +kernel
theorem dX8_colours_207 : decode cX8_colours 207 = .ok (.aload_n 0, 1) := by decide +kernel
theorem dX8_colours_208 : decode cX8_colours 208 = .ok (.getfield 35, 3) := by decide +kernel
theorem dX8_colours_211 : decode cX8_colours 211 = .ok (.iload 8, 2) := by decide +kernel
theorem dX8_colours_213 : decode cX8_colours 213 = .ok (.aload_n 0, 1) := by decide +kernel
theorem dX8_colours_214 : decode cX8_colours 214 = .ok (.getfield 35, 3) := by decide +kernel
theorem dX8_colours_217 : decode cX8_colours 217 = .ok (.bipush 6, 2) := by decide +kernel
theorem dX8_colours_219 : decode cX8_colours 219 = .ok (.iload 8, 2) := by decide +kernel
theorem dX8_colours_221 : decode cX8_colours 221 = .ok (.iadd, 1) := by decide +kernel
theorem dX8_colours_222 : decode cX8_colours 222 = .ok (.laload, 1) := by decide +kernel
theorem dX8_colours_223 : decode cX8_colours 223 = .ok (.lastore, 1) := by decide +kernel
theorem dX8_colours_224 : decode cX8_colours 224 = .ok (.iinc 8 1, 3) := by decide +kernel
theorem dX8_colours_227 : decode cX8_colours 227 = .ok (.goto (-29), 3) := by decide +kernel
theorem dX8_colours_230 : decode cX8_colours 230 = .ok (.aload_n 0, 1) := by decide +kernel
theorem dX8_colours_231 : decode cX8_colours 231 = .ok (.getfield 38, 3) := by decide +kernel
theorem dX8_colours_234 : decode cX8_colours 234 = .ok (.iload 4, 2) := by decide +kernel
theorem dX8_colours_236 : decode cX8_colours 236 = .ok (.iload 6, 2) := by decide +kernel
theorem dX8_colours_238 : decode cX8_colours 238 = .ok (.iastore, 1) := by decide +kernel
theorem dX8_colours_239 : decode cX8_colours 239 = .ok (.iinc 4 1, 3) := by decide +kernel
theorem dX8_colours_242 : decode cX8_colours 242 = .ok (.goto (-146), 3) := by decide +kernel
theorem dX8_colours_245 : decode cX8_colours 245 = .ok (.iconst 1, 1) := by decide +kernel
theorem dX8_colours_246 : decode cX8_colours 246 = .ok (.ireturn, 1) := by decide +kernel
def f_X8_colours (N : Nat) (x1 : Int32) (x2 : Int32) (x3 : Int32) (M : Mem) : Option (Int32 × Mem) := nm (setI M 0 12 x1) (fun M1 => nm (setI M1 0 13 x2) (fun M2 => lp (fun (k13 : (Int32 × Mem) → Option (Int32 × Mem)) (a13 : Int32 × Mem) => if (a13.2.1 0 0) ≤ a13.1 then (lp (fun (k96 : (Int32 × Mem) → Option (Int32 × Mem)) (a96 : Int32 × Mem) => if (a96.2.1 0 0) ≤ a96.1 then (some ((1 : Int32), a96.2)) else (bd (f_X8_partOf N a96.1 a96.2) (fun v3 => nm (v3 &&& ((((2 : Int32) <<< (a96.1 &&& 31)) - (1 : Int32)) ^^^ (-1 : Int32))) (fun v5 => lp (fun (k125 : (Int32 × Mem) → Option (Int32 × Mem)) (a125 : Int32 × Mem) => jn (fun (a176 : Mem) => if a125.1 = x1 then (some ((0 : Int32), a176)) else (bd (f_X8_narrows N (0 : Int32) a96.1 a125.1 a176) (fun w8 => lp (fun (k198 : (Int32 × Mem) → Option (Int32 × Mem)) (a198 : Int32 × Mem) => if (a198.2.1 0 0) ≤ a198.1 then (ck (inb a96.1 6) (nm (setI a198.2 7 a96.1.toNatClampNeg a125.1) (fun M9 => nm (a96.1 + (1 : Int32)) (fun v10 => k96 (v10, M9))))) else (ck (inb ((6 : Int32) + a198.1) 42) (ck (inb a198.1 42) (nm (setJ a198.2 6 a198.1.toNatClampNeg (a198.2.2 6 ((6 : Int32) + a198.1).toNatClampNeg)) (fun M11 => nm (a198.1 + (1 : Int32)) (fun v12 => k198 (v12, M11))))))) N ((0 : Int32), w8.2)))) (fun (k176 : Mem → Option (Int32 × Mem)) => if x1 ≤ a125.1 then (k176 a125.2) else (ck (inb a96.1 42) (jn (fun (a170 : Mem) => nm (a125.1 + (1 : Int32)) (fun v13 => k125 (v13, a170))) (fun (k170 : Mem → Option (Int32 × Mem)) => if (lg_cmp (((a125.2.2 6 a96.1.toNatClampNeg) >>> (a125.1.toInt64 &&& 63)) &&& (1 : Int64)) (1 : Int64)) = 0 then (bd (f_X8_narrows N (0 : Int32) a96.1 a125.1 a125.2) (fun w16 => if w16.1 = 0 then (k170 w16.2) else (bd (f_X8_ends N 10 (1 : Int32) v5 w16.2) (fun w19 => if w19.1 = 0 then (k170 w19.2) else (k176 w19.2))))) else (k170 a125.2)))))) N ((0 : Int32), a96.2))))) N ((0 : Int32), a13.2)) else (bd (f_X8_partOf N a13.1 a13.2) (fun v20 => jn (fun (a43 : Int32) => jn (fun (a86 : Int64) => ck (inb a13.1 42) (nm (setJ a13.2 6 a13.1.toNatClampNeg a86) (fun M22 => nm (a13.1 + (1 : Int32)) (fun v23 => k13 (v23, M22))))) (fun (k86 : Int64 → Option (Int32 × Mem)) => if x3 = (1 : Int32) then (ck (inb a13.1 6) (k86 ((a13.2.2 5 a13.1.toNatClampNeg) &&& (((1 : Int64) <<< (x1.toInt64 &&& 63)) - (1 : Int64))))) else (if a43 = 0 then (k86 (((1 : Int64) <<< (x1.toInt64 &&& 63)) - (1 : Int64))) else (k86 (1 : Int64))))) (fun (k43 : Int32 → Option (Int32 × Mem)) => if (v20 &&& (((1 : Int32) <<< (a13.1 &&& 31)) - (1 : Int32))) = 0 then (k43 (1 : Int32)) else (k43 (0 : Int32)))))) N ((0 : Int32), M2)))
set_option maxRecDepth 100000 in
set_option maxHeartbeats 4000000 in
theorem c_X8_colours {l : Launch} {D : va_G} {ac : Nat → ClassId} {A : Nat → Prop} {ad : Nat → Nat} {rest : va_W} (N : Nat) (x1 : Int32) (x2 : Int32) (x3 : Int32)  (M : Mem) (r0 : Int32) (M0 : Mem) (hf : f_X8_colours N x1 x2 x3 M = some (r0, M0)) : CtI l D ac A tabM ad rest yX8_colours cX8_colours 9 .boolean 15 [.ref (ad 0), .int x1, .int x2, .int x3] M r0 M0 := by
  refine ct_ofI (own := RX8) (by decide +kernel) rfl (Nat.le_of_ble_eq_true rfl) ?_
  intro p e s m args below meth c C
  unfold f_X8_colours at hf
  refine a_L (L' := [(0, .ref (ad 0)), (1, .int x1), (2, .int x2), (3, .int x3)]) rfl ?_
  refine a_aload_n (pc := 0) C dX8_colours_0 0 rfl ?_
  refine a_iload_n (pc := 1) C dX8_colours_1 1 rfl ?_
  refine a_putI (pc := 2) C dX8_colours_2 fl_X8_148 tm_0 rfl hf (fun M1 hf => ?_)
  refine a_aload_n (pc := 5) C dX8_colours_5 0 rfl ?_
  refine a_iload_n (pc := 6) C dX8_colours_6 2 rfl ?_
  refine a_putI (pc := 7) C dX8_colours_7 fl_X8_151 tm_0 rfl hf (fun M2 hf => ?_)
  refine a_iconst (pc := 10) (v := 0) C dX8_colours_10 (by decide) ?_
  refine a_istore (pc := 11) [(4, .int (0 : Int32)), (0, .ref (ad 0)), (1, .int x1), (2, .int x2), (3, .int x3)] C dX8_colours_11 (by decide) rfl ?_
  refine a_sub [1, 2, 4, 0] rfl ?_
  refine a_lp 13 (fun a13 : Int32 × Mem => [(0, .ref (ad 0)), (1, .int x1), (3, .int x3), (4, .int a13.1)]) (fun a13 : Int32 × Mem => []) (fun a13 : Int32 × Mem => a13.2) (fun k13 a13 hk13 hf => ?_) N ((0 : Int32), M2) hf
  refine a_iload (pc := 13) C dX8_colours_13 3 rfl ?_
  refine a_aload_n (pc := 15) C dX8_colours_15 0 rfl ?_
  refine a_getI (pc := 16) C dX8_colours_16 fl_X8_95 tm_0 rfl ?_
  refine a_icmp_ge (pc := 19) 93 C dX8_colours_19 (by decide) hf (fun hf => ?_) (fun hf => ?_)
  · refine a_iconst (pc := 93) (v := 0) C dX8_colours_93 (by decide) ?_
    refine a_istore (pc := 94) [(4, .int (0 : Int32)), (0, .ref (ad 0)), (1, .int x1), (3, .int x3)] C dX8_colours_94 (by decide) rfl ?_
    refine a_sub [1, 2, 0] rfl ?_
    refine a_lp 96 (fun a96 : Int32 × Mem => [(0, .ref (ad 0)), (1, .int x1), (4, .int a96.1)]) (fun a96 : Int32 × Mem => []) (fun a96 : Int32 × Mem => a96.2) (fun k96 a96 hk96 hf => ?_) N ((0 : Int32), a13.2) hf
    refine a_iload (pc := 96) C dX8_colours_96 2 rfl ?_
    refine a_aload_n (pc := 98) C dX8_colours_98 0 rfl ?_
    refine a_getI (pc := 99) C dX8_colours_99 fl_X8_95 tm_0 rfl ?_
    refine a_icmp_ge (pc := 102) 245 C dX8_colours_102 (by decide) hf (fun hf => ?_) (fun hf => ?_)
    · refine a_iconst (pc := 245) (v := 1) C dX8_colours_245 (by decide) ?_
      exact a_zret (pc := 246) C dX8_colours_246 (Or.inr rfl) (so_1 hf) (so_2 hf)
    · refine a_aload_n (pc := 105) C dX8_colours_105 0 rfl ?_
      refine a_iload (pc := 106) C dX8_colours_106 2 rfl ?_
      refine a_callV_Ir (pc := 108) (d' := 2) C dX8_colours_108 ml_X8_173 mc_X8_partOf mv_X8_partOf tm_0 rfl [.int a96.1] rfl (Nat.le_of_ble_eq_true rfl) (Nat.le_of_ble_eq_true rfl) rfl (Nat.le_of_ble_eq_true rfl) (fun r h => c_X8_partOf N a96.1  _  r h) hf (fun v3 hf => ?_)
      refine a_iconst (pc := 111) (v := 2) C dX8_colours_111 (by decide) ?_
      refine a_iload (pc := 112) C dX8_colours_112 2 rfl ?_
      refine a_ishl (pc := 114) C dX8_colours_114 ?_
      refine a_iconst (pc := 115) (v := 1) C dX8_colours_115 (by decide) ?_
      refine a_isub (pc := 116) C dX8_colours_116 ?_
      refine a_iconst (pc := 117) (v := (-1)) C dX8_colours_117 (by decide) ?_
      refine a_ixor (pc := 118) C dX8_colours_118 ?_
      refine a_iand (pc := 119) C dX8_colours_119 ?_
      refine a_nmi hf (fun v5 hf => ?_)
      refine a_istore (pc := 120) [(5, .int v5), (0, .ref (ad 0)), (1, .int x1), (4, .int a96.1)] C dX8_colours_120 (by decide) rfl ?_
      refine a_iconst (pc := 122) (v := 0) C dX8_colours_122 (by decide) ?_
      refine a_istore (pc := 123) [(6, .int (0 : Int32)), (5, .int v5), (0, .ref (ad 0)), (1, .int x1), (4, .int a96.1)] C dX8_colours_123 (by decide) rfl ?_
      refine a_sub [2, 3, 4, 1, 0] rfl ?_
      refine a_lp 125 (fun a125 : Int32 × Mem => [(0, .ref (ad 0)), (1, .int x1), (4, .int a96.1), (5, .int v5), (6, .int a125.1)]) (fun a125 : Int32 × Mem => []) (fun a125 : Int32 × Mem => a125.2) (fun k125 a125 hk125 hf => ?_) N ((0 : Int32), a96.2) hf
      refine a_iload (pc := 125) C dX8_colours_125 4 rfl ?_
      refine a_iload_n (pc := 127) C dX8_colours_127 1 rfl ?_
      refine a_jn 176 (fun a176 : Mem => [(0, .ref (ad 0)), (1, .int x1), (4, .int a96.1), (6, .int a125.1)]) (fun a176 : Mem => []) (fun a176 : Mem => a176) hf (fun a176 hf => ?_) (fun k176 hk176 hf => ?_)
      · refine a_iload (pc := 176) C dX8_colours_176 3 rfl ?_
        refine a_iload_n (pc := 178) C dX8_colours_178 1 rfl ?_
        refine a_icmp_ne (pc := 179) 184 C dX8_colours_179 (by decide) hf (fun hf => ?_) (fun hf => ?_)
        · refine a_aload_n (pc := 184) C dX8_colours_184 0 rfl ?_
          refine a_iconst (pc := 185) (v := 0) C dX8_colours_185 (by decide) ?_
          refine a_iload (pc := 186) C dX8_colours_186 2 rfl ?_
          refine a_iload (pc := 188) C dX8_colours_188 3 rfl ?_
          refine a_callV_I (pc := 190) (d' := 3) C dX8_colours_190 ml_X8_166 mc_X8_narrows mv_X8_narrows tm_0 rfl [.int (0 : Int32), .int a96.1, .int a125.1] rfl (Nat.le_of_ble_eq_true rfl) (Nat.le_of_ble_eq_true rfl) rfl (Nat.le_of_ble_eq_true rfl) (fun r M' h => c_X8_narrows N (0 : Int32) a96.1 a125.1  _  r M' h) hf (fun v6 M7 hf => ?_)
          refine a_istore (pc := 193) [(7, .int v6), (0, .ref (ad 0)), (1, .int x1), (4, .int a96.1), (6, .int a125.1)] C dX8_colours_193 (by decide) rfl ?_
          refine a_iconst (pc := 195) (v := 0) C dX8_colours_195 (by decide) ?_
          refine a_istore (pc := 196) [(8, .int (0 : Int32)), (7, .int v6), (0, .ref (ad 0)), (1, .int x1), (4, .int a96.1), (6, .int a125.1)] C dX8_colours_196 (by decide) rfl ?_
          refine a_sub [2, 3, 4, 5, 0] rfl ?_
          refine a_lp 198 (fun a198 : Int32 × Mem => [(0, .ref (ad 0)), (1, .int x1), (4, .int a96.1), (6, .int a125.1), (8, .int a198.1)]) (fun a198 : Int32 × Mem => []) (fun a198 : Int32 × Mem => a198.2) (fun k198 a198 hk198 hf => ?_) N ((0 : Int32), M7) hf
          refine a_iload (pc := 198) C dX8_colours_198 4 rfl ?_
          refine a_aload_n (pc := 200) C dX8_colours_200 0 rfl ?_
          refine a_getI (pc := 201) C dX8_colours_201 fl_X8_95 tm_0 rfl ?_
          refine a_icmp_ge (pc := 204) 230 C dX8_colours_204 (by decide) hf (fun hf => ?_) (fun hf => ?_)
          · refine a_aload_n (pc := 230) C dX8_colours_230 0 rfl ?_
            refine a_getR (pc := 231) C dX8_colours_231 fl_X8_38 tm_0 rfl ?_
            refine a_iload (pc := 234) C dX8_colours_234 2 rfl ?_
            refine a_iload (pc := 236) C dX8_colours_236 3 rfl ?_
            refine a_iast (pc := 238) C dX8_colours_238 tm_7 hf (fun M9 hf => ?_)
            refine a_iinc (pc := 239) (v := 1) (fun v10 => [(4, .int v10), (0, .ref (ad 0)), (1, .int x1), (6, .int a125.1), (8, .int a198.1)]) C dX8_colours_239 2 rfl (by decide) (by decide) (fun _ => rfl) hf (fun v10 hf => ?_)
            refine a_goto (pc := 242) 96 C dX8_colours_242 (by decide) ?_
            exact a_sub [1, 2, 0] rfl (hk96 (v10, M9) hf)
          · refine a_aload_n (pc := 207) C dX8_colours_207 0 rfl ?_
            refine a_getR (pc := 208) C dX8_colours_208 fl_X8_35 tm_0 rfl ?_
            refine a_iload (pc := 211) C dX8_colours_211 4 rfl ?_
            refine a_aload_n (pc := 213) C dX8_colours_213 0 rfl ?_
            refine a_getR (pc := 214) C dX8_colours_214 fl_X8_35 tm_0 rfl ?_
            refine a_bipush (pc := 217) (v := 6) C dX8_colours_217 (by decide) ?_
            refine a_iload (pc := 219) C dX8_colours_219 4 rfl ?_
            refine a_iadd (pc := 221) C dX8_colours_221 ?_
            refine a_lald (pc := 222) C dX8_colours_222 tm_6 hf (fun hf => ?_)
            refine a_last (pc := 223) C dX8_colours_223 tm_6 hf (fun M11 hf => ?_)
            refine a_iinc (pc := 224) (v := 1) (fun v12 => [(8, .int v12), (0, .ref (ad 0)), (1, .int x1), (4, .int a96.1), (6, .int a125.1)]) C dX8_colours_224 4 rfl (by decide) (by decide) (fun _ => rfl) hf (fun v12 hf => ?_)
            refine a_goto (pc := 227) 198 C dX8_colours_227 (by decide) ?_
            exact a_sub [1, 2, 3, 4, 0] rfl (hk198 (v12, M11) hf)
        · refine a_iconst (pc := 182) (v := 0) C dX8_colours_182 (by decide) ?_
          exact a_zret (pc := 183) C dX8_colours_183 (Or.inl rfl) (so_1 hf) (so_2 hf)
      · refine a_icmp_ge (pc := 128) 176 C dX8_colours_128 (by decide) hf (fun hf => ?_) (fun hf => ?_)
        · exact a_sub [0, 1, 2, 4] rfl (hk176 a125.2 hf)
        · refine a_aload_n (pc := 131) C dX8_colours_131 0 rfl ?_
          refine a_getR (pc := 132) C dX8_colours_132 fl_X8_35 tm_0 rfl ?_
          refine a_iload (pc := 135) C dX8_colours_135 2 rfl ?_
          refine a_lald (pc := 137) C dX8_colours_137 tm_6 hf (fun hf => ?_)
          refine a_iload (pc := 138) C dX8_colours_138 4 rfl ?_
          refine a_lshr (pc := 140) C dX8_colours_140 ?_
          refine a_lconst (pc := 141) (v := 1) C dX8_colours_141 (by decide) ?_
          refine a_land (pc := 142) C dX8_colours_142 ?_
          refine a_lconst (pc := 143) (v := 1) C dX8_colours_143 (by decide) ?_
          refine a_lcmp (pc := 144) C dX8_colours_144 ?_
          refine a_jn 170 (fun a170 : Mem => [(0, .ref (ad 0)), (1, .int x1), (4, .int a96.1), (5, .int v5), (6, .int a125.1)]) (fun a170 : Mem => []) (fun a170 : Mem => a170) hf (fun a170 hf => ?_) (fun k170 hk170 hf => ?_)
          · refine a_iinc (pc := 170) (v := 1) (fun v13 => [(6, .int v13), (0, .ref (ad 0)), (1, .int x1), (4, .int a96.1), (5, .int v5)]) C dX8_colours_170 4 rfl (by decide) (by decide) (fun _ => rfl) hf (fun v13 hf => ?_)
            refine a_goto (pc := 173) 125 C dX8_colours_173 (by decide) ?_
            exact a_sub [1, 2, 3, 4, 0] rfl (hk125 (v13, a170) hf)
          · refine a_if_ne (pc := 145) 170 C dX8_colours_145 (by decide) hf (fun hf => ?_) (fun hf => ?_)
            · exact a_sub [0, 1, 2, 3, 4] rfl (hk170 a125.2 hf)
            · refine a_aload_n (pc := 148) C dX8_colours_148 0 rfl ?_
              refine a_iconst (pc := 149) (v := 0) C dX8_colours_149 (by decide) ?_
              refine a_iload (pc := 150) C dX8_colours_150 2 rfl ?_
              refine a_iload (pc := 152) C dX8_colours_152 4 rfl ?_
              refine a_callV_I (pc := 154) (d' := 3) C dX8_colours_154 ml_X8_166 mc_X8_narrows mv_X8_narrows tm_0 rfl [.int (0 : Int32), .int a96.1, .int a125.1] rfl (Nat.le_of_ble_eq_true rfl) (Nat.le_of_ble_eq_true rfl) rfl (Nat.le_of_ble_eq_true rfl) (fun r M' h => c_X8_narrows N (0 : Int32) a96.1 a125.1  _  r M' h) hf (fun v14 M15 hf => ?_)
              refine a_if_eq (pc := 157) 170 C dX8_colours_157 (by decide) hf (fun hf => ?_) (fun hf => ?_)
              · exact a_sub [0, 1, 2, 3, 4] rfl (hk170 M15 hf)
              · refine a_aload_n (pc := 160) C dX8_colours_160 0 rfl ?_
                refine a_iconst (pc := 161) (v := 1) C dX8_colours_161 (by decide) ?_
                refine a_iload (pc := 162) C dX8_colours_162 3 rfl ?_
                refine a_callV_I (pc := 164) (d' := 14) C dX8_colours_164 ml_X8_170 mc_X8_ends mv_X8_ends tm_0 rfl [.int (1 : Int32), .int v5] rfl (Nat.le_of_ble_eq_true rfl) (Nat.le_of_ble_eq_true rfl) rfl (Nat.le_of_ble_eq_true rfl) (fun r M' h => c_X8_ends N 10 (1 : Int32) v5  _  r M' h) hf (fun v17 M18 hf => ?_)
                refine a_if_ne (pc := 167) 176 C dX8_colours_167 (by decide) hf (fun hf => ?_) (fun hf => ?_)
                · exact a_sub [0, 1, 2, 4] rfl (hk176 M18 hf)
                · exact a_sub [0, 1, 2, 3, 4] rfl (hk170 M18 hf)
  · refine a_aload_n (pc := 22) C dX8_colours_22 0 rfl ?_
    refine a_iload (pc := 23) C dX8_colours_23 3 rfl ?_
    refine a_callV_Ir (pc := 25) (d' := 2) C dX8_colours_25 ml_X8_173 mc_X8_partOf mv_X8_partOf tm_0 rfl [.int a13.1] rfl (Nat.le_of_ble_eq_true rfl) (Nat.le_of_ble_eq_true rfl) rfl (Nat.le_of_ble_eq_true rfl) (fun r h => c_X8_partOf N a13.1  _  r h) hf (fun v20 hf => ?_)
    refine a_iconst (pc := 28) (v := 1) C dX8_colours_28 (by decide) ?_
    refine a_iload (pc := 29) C dX8_colours_29 3 rfl ?_
    refine a_ishl (pc := 31) C dX8_colours_31 ?_
    refine a_iconst (pc := 32) (v := 1) C dX8_colours_32 (by decide) ?_
    refine a_isub (pc := 33) C dX8_colours_33 ?_
    refine a_iand (pc := 34) C dX8_colours_34 ?_
    refine a_jn 43 (fun a43 : Int32 => [(0, .ref (ad 0)), (1, .int x1), (3, .int x3), (4, .int a13.1)]) (fun a43 : Int32 => [.int a43]) (fun a43 : Int32 => a13.2) hf (fun a43 hf => ?_) (fun k43 hk43 hf => ?_)
    · refine a_istore (pc := 43) [(5, .int a43), (0, .ref (ad 0)), (1, .int x1), (3, .int x3), (4, .int a13.1)] C dX8_colours_43 (by decide) rfl ?_
      refine a_aload_n (pc := 45) C dX8_colours_45 1 rfl ?_
      refine a_getR (pc := 46) C dX8_colours_46 fl_X8_35 tm_0 rfl ?_
      refine a_iload (pc := 49) C dX8_colours_49 4 rfl ?_
      refine a_iload_n (pc := 51) C dX8_colours_51 3 rfl ?_
      refine a_iconst (pc := 52) (v := 1) C dX8_colours_52 (by decide) ?_
      refine a_jn 86 (fun a86 : Int64 => [(0, .ref (ad 0)), (1, .int x1), (3, .int x3), (4, .int a13.1)]) (fun a86 : Int64 => [.long a86, .int a13.1, .ref (ad 6)]) (fun a86 : Int64 => a13.2) hf (fun a86 hf => ?_) (fun k86 hk86 hf => ?_)
      · refine a_last (pc := 86) C dX8_colours_86 tm_6 hf (fun M22 hf => ?_)
        refine a_iinc (pc := 87) (v := 1) (fun v23 => [(4, .int v23), (0, .ref (ad 0)), (1, .int x1), (3, .int x3)]) C dX8_colours_87 3 rfl (by decide) (by decide) (fun _ => rfl) hf (fun v23 hf => ?_)
        refine a_goto (pc := 90) 13 C dX8_colours_90 (by decide) ?_
        exact a_sub [1, 2, 3, 0] rfl (hk13 (v23, M22) hf)
      · refine a_icmp_ne (pc := 53) 72 C dX8_colours_53 (by decide) hf (fun hf => ?_) (fun hf => ?_)
        · refine a_iload (pc := 72) C dX8_colours_72 0 rfl ?_
          refine a_if_eq (pc := 74) 81 C dX8_colours_74 (by decide) hf (fun hf => ?_) (fun hf => ?_)
          · refine a_lconst (pc := 81) (v := 1) C dX8_colours_81 (by decide) ?_
            refine a_iload_n (pc := 82) C dX8_colours_82 2 rfl ?_
            refine a_lshl (pc := 83) C dX8_colours_83 ?_
            refine a_lconst (pc := 84) (v := 1) C dX8_colours_84 (by decide) ?_
            refine a_lsub (pc := 85) C dX8_colours_85 ?_
            exact a_sub [1, 2, 3, 4] rfl (hk86 (((1 : Int64) <<< (x1.toInt64 &&& 63)) - (1 : Int64)) hf)
          · refine a_lconst (pc := 77) (v := 1) C dX8_colours_77 (by decide) ?_
            refine a_goto (pc := 78) 86 C dX8_colours_78 (by decide) ?_
            exact a_sub [1, 2, 3, 4] rfl (hk86 (1 : Int64) hf)
        · refine a_aload_n (pc := 56) C dX8_colours_56 1 rfl ?_
          refine a_getR (pc := 57) C dX8_colours_57 fl_X8_28 tm_0 rfl ?_
          refine a_iload (pc := 60) C dX8_colours_60 4 rfl ?_
          refine a_lald (pc := 62) C dX8_colours_62 tm_5 hf (fun hf => ?_)
          refine a_lconst (pc := 63) (v := 1) C dX8_colours_63 (by decide) ?_
          refine a_iload_n (pc := 64) C dX8_colours_64 2 rfl ?_
          refine a_lshl (pc := 65) C dX8_colours_65 ?_
          refine a_lconst (pc := 66) (v := 1) C dX8_colours_66 (by decide) ?_
          refine a_lsub (pc := 67) C dX8_colours_67 ?_
          refine a_land (pc := 68) C dX8_colours_68 ?_
          refine a_goto (pc := 69) 86 C dX8_colours_69 (by decide) ?_
          exact a_sub [1, 2, 3, 4] rfl (hk86 ((a13.2.2 5 a13.1.toNatClampNeg) &&& (((1 : Int64) <<< (x1.toInt64 &&& 63)) - (1 : Int64))) hf)
    · refine a_if_ne (pc := 35) 42 C dX8_colours_35 (by decide) hf (fun hf => ?_) (fun hf => ?_)
      · refine a_iconst (pc := 42) (v := 0) C dX8_colours_42 (by decide) ?_
        exact a_sub [0, 1, 2, 3] rfl (hk43 (0 : Int32) hf)
      · refine a_iconst (pc := 38) (v := 1) C dX8_colours_38 (by decide) ?_
        refine a_goto (pc := 39) 43 C dX8_colours_39 (by decide) ?_
        exact a_sub [0, 1, 2, 3] rfl (hk43 (1 : Int32) hf)
theorem dX8_ways_0 : decode cX8_ways 0 = .ok (.iload_n 1, 1) := by decide +kernel
theorem dX8_ways_1 : decode cX8_ways 1 = .ok (.i2l, 1) := by decide +kernel
theorem dX8_ways_2 : decode cX8_ways 2 = .ok (.lconst 1, 1) := by decide +kernel
theorem dX8_ways_3 : decode cX8_ways 3 = .ok (.ldc2_w 195, 3) := by decide +kernel
theorem dX8_ways_6 : decode cX8_ways 6 = .ok (.invokestatic 98, 3) := by decide +kernel
theorem dX8_ways_9 : decode cX8_ways 9 = .ok (.ifCond .eq 25, 3) := by decide +kernel
theorem dX8_ways_12 : decode cX8_ways 12 = .ok (.iload_n 2, 1) := by decide +kernel
theorem dX8_ways_13 : decode cX8_ways 13 = .ok (.i2l, 1) := by decide +kernel
theorem dX8_ways_14 : decode cX8_ways 14 = .ok (.lconst 1, 1) := by decide +kernel
theorem dX8_ways_15 : decode cX8_ways 15 = .ok (.ldc2_w 112, 3) := by decide +kernel
theorem dX8_ways_18 : decode cX8_ways 18 = .ok (.invokestatic 98, 3) := by decide +kernel
theorem dX8_ways_21 : decode cX8_ways 21 = .ok (.ifCond .eq 13, 3) := by decide +kernel
theorem dX8_ways_24 : decode cX8_ways 24 = .ok (.iload_n 3, 1) := by decide +kernel
theorem dX8_ways_25 : decode cX8_ways 25 = .ok (.i2l, 1) := by decide +kernel
theorem dX8_ways_26 : decode cX8_ways 26 = .ok (.lconst 0, 1) := by decide +kernel
theorem dX8_ways_27 : decode cX8_ways 27 = .ok (.lconst 1, 1) := by decide +kernel
theorem dX8_ways_28 : decode cX8_ways 28 = .ok (.invokestatic 98, 3) := by decide +kernel
theorem dX8_ways_31 : decode cX8_ways 31 = .ok (.ifCond .ne 6, 3) := by decide +kernel
theorem dX8_ways_34 : decode cX8_ways 34 = .ok (.bipush (-2), 2) := by decide +kernel
theorem dX8_ways_36 : decode cX8_ways 36 = .ok (.ireturn, 1) := by decide +kernel
theorem dX8_ways_37 : decode cX8_ways 37 = .ok (.aload_n 0, 1) := by decide +kernel
theorem dX8_ways_38 : decode cX8_ways 38 = .ok (.iload_n 1, 1) := by decide +kernel
theorem dX8_ways_39 : decode cX8_ways 39 = .ok (.putfield 148, 3) := by decide +kernel
theorem dX8_ways_42 : decode cX8_ways 42 = .ok (.aload_n 0, 1) := by decide +kernel
theorem dX8_ways_43 : decode cX8_ways 43 = .ok (.iload_n 2, 1) := by decide +kernel
theorem dX8_ways_44 : decode cX8_ways 44 = .ok (.putfield 151, 3) := by decide +kernel
theorem dX8_ways_47 : decode cX8_ways 47 = .ok (.aload_n 0, 1) := by decide +kernel
theorem dX8_ways_48 : decode cX8_ways 48 = .ok (.iconst 0, 1) := by decide +kernel
theorem dX8_ways_49 : decode cX8_ways 49 = .ok (.iload_n 3, 1) := by decide +kernel
theorem dX8_ways_50 : decode cX8_ways 50 = .ok (.invokevirtual 192, 3) := by decide +kernel
theorem dX8_ways_53 : decode cX8_ways 53 = .ok (.ireturn, 1) := by decide +kernel
def f_X8_ways (N : Nat) (x1 : Int32) (x2 : Int32) (x3 : Int32) (M : Mem) : Option (Int32 × Mem) := bd (f_X8_in N x1.toInt64 (1 : Int64) (8 : Int64) M) (fun v1 => if v1 = 0 then (some ((-2 : Int32), M)) else (bd (f_X8_in N x2.toInt64 (1 : Int64) (6 : Int64) M) (fun v3 => if v3 = 0 then (some ((-2 : Int32), M)) else (bd (f_X8_in N x3.toInt64 (0 : Int64) (1 : Int64) M) (fun v5 => if v5 = 0 then (some ((-2 : Int32), M)) else (nm (setI M 0 12 x1) (fun M7 => nm (setI M7 0 13 x2) (fun M8 => bd (f_X8_waysFrom N 10 (0 : Int32) x3 M8) (fun w11 => some (w11.1, w11.2))))))))))
set_option maxRecDepth 100000 in
set_option maxHeartbeats 4000000 in
theorem c_X8_ways {l : Launch} {D : va_G} {ac : Nat → ClassId} {A : Nat → Prop} {ad : Nat → Nat} {rest : va_W} (N : Nat) (x1 : Int32) (x2 : Int32) (x3 : Int32)  (M : Mem) (r0 : Int32) (M0 : Mem) (hf : f_X8_ways N x1 x2 x3 M = some (r0, M0)) : CtI l D ac A tabM ad rest yX8_ways cX8_ways 4 .int 15 [.ref (ad 0), .int x1, .int x2, .int x3] M r0 M0 := by
  refine ct_ofI (own := RX8) (by decide +kernel) rfl (Nat.le_of_ble_eq_true rfl) ?_
  intro p e s m args below meth c C
  unfold f_X8_ways at hf
  refine a_L (L' := [(0, .ref (ad 0)), (1, .int x1), (2, .int x2), (3, .int x3)]) rfl ?_
  refine a_iload_n (pc := 0) C dX8_ways_0 1 rfl ?_
  refine a_i2l (pc := 1) C dX8_ways_1 ?_
  refine a_lconst (pc := 2) (v := 1) C dX8_ways_2 (by decide) ?_
  refine a_ldc2 (pc := 3) C dX8_ways_3 cj_X8_195 ?_
  refine a_callS_Ir (pc := 6) (d' := 1) C dX8_ways_6 ml_X8_98 mc_X8_in ms_X8_in [.long x1.toInt64, .long (1 : Int64), .long (8 : Int64)] rfl (Nat.le_of_ble_eq_true rfl) (Nat.le_of_ble_eq_true rfl) rfl (Nat.le_of_ble_eq_true rfl) (fun r h => c_X8_in N x1.toInt64 (1 : Int64) (8 : Int64)  _  r h) hf (fun v1 hf => ?_)
  refine a_if_eq (pc := 9) 34 C dX8_ways_9 (by decide) hf (fun hf => ?_) (fun hf => ?_)
  · refine a_bipush (pc := 34) (v := (-2)) C dX8_ways_34 (by decide) ?_
    exact a_iret (pc := 36) C dX8_ways_36 (so_1 hf) (so_2 hf)
  · refine a_iload_n (pc := 12) C dX8_ways_12 2 rfl ?_
    refine a_i2l (pc := 13) C dX8_ways_13 ?_
    refine a_lconst (pc := 14) (v := 1) C dX8_ways_14 (by decide) ?_
    refine a_ldc2 (pc := 15) C dX8_ways_15 cj_X8_112 ?_
    refine a_callS_Ir (pc := 18) (d' := 1) C dX8_ways_18 ml_X8_98 mc_X8_in ms_X8_in [.long x2.toInt64, .long (1 : Int64), .long (6 : Int64)] rfl (Nat.le_of_ble_eq_true rfl) (Nat.le_of_ble_eq_true rfl) rfl (Nat.le_of_ble_eq_true rfl) (fun r h => c_X8_in N x2.toInt64 (1 : Int64) (6 : Int64)  _  r h) hf (fun v3 hf => ?_)
    refine a_if_eq (pc := 21) 34 C dX8_ways_21 (by decide) hf (fun hf => ?_) (fun hf => ?_)
    · refine a_bipush (pc := 34) (v := (-2)) C dX8_ways_34 (by decide) ?_
      exact a_iret (pc := 36) C dX8_ways_36 (so_1 hf) (so_2 hf)
    · refine a_iload_n (pc := 24) C dX8_ways_24 3 rfl ?_
      refine a_i2l (pc := 25) C dX8_ways_25 ?_
      refine a_lconst (pc := 26) (v := 0) C dX8_ways_26 (by decide) ?_
      refine a_lconst (pc := 27) (v := 1) C dX8_ways_27 (by decide) ?_
      refine a_callS_Ir (pc := 28) (d' := 1) C dX8_ways_28 ml_X8_98 mc_X8_in ms_X8_in [.long x3.toInt64, .long (0 : Int64), .long (1 : Int64)] rfl (Nat.le_of_ble_eq_true rfl) (Nat.le_of_ble_eq_true rfl) rfl (Nat.le_of_ble_eq_true rfl) (fun r h => c_X8_in N x3.toInt64 (0 : Int64) (1 : Int64)  _  r h) hf (fun v5 hf => ?_)
      refine a_if_ne (pc := 31) 37 C dX8_ways_31 (by decide) hf (fun hf => ?_) (fun hf => ?_)
      · refine a_aload_n (pc := 37) C dX8_ways_37 0 rfl ?_
        refine a_iload_n (pc := 38) C dX8_ways_38 1 rfl ?_
        refine a_putI (pc := 39) C dX8_ways_39 fl_X8_148 tm_0 rfl hf (fun M7 hf => ?_)
        refine a_aload_n (pc := 42) C dX8_ways_42 0 rfl ?_
        refine a_iload_n (pc := 43) C dX8_ways_43 2 rfl ?_
        refine a_putI (pc := 44) C dX8_ways_44 fl_X8_151 tm_0 rfl hf (fun M8 hf => ?_)
        refine a_aload_n (pc := 47) C dX8_ways_47 0 rfl ?_
        refine a_iconst (pc := 48) (v := 0) C dX8_ways_48 (by decide) ?_
        refine a_iload_n (pc := 49) C dX8_ways_49 3 rfl ?_
        refine a_callV_I (pc := 50) (d' := 14) C dX8_ways_50 ml_X8_192 mc_X8_waysFrom mv_X8_waysFrom tm_0 rfl [.int (0 : Int32), .int x3] rfl (Nat.le_of_ble_eq_true rfl) (Nat.le_of_ble_eq_true rfl) rfl (Nat.le_of_ble_eq_true rfl) (fun r M' h => c_X8_waysFrom N 10 (0 : Int32) x3  _  r M' h) hf (fun v9 M10 hf => ?_)
        exact a_iret (pc := 53) C dX8_ways_53 (so_1 hf) (so_2 hf)
      · refine a_bipush (pc := 34) (v := (-2)) C dX8_ways_34 (by decide) ?_
        exact a_iret (pc := 36) C dX8_ways_36 (so_1 hf) (so_2 hf)
theorem dX8_fits_0 : decode cX8_fits 0 = .ok (.iload_n 1, 1) := by decide +kernel
theorem dX8_fits_1 : decode cX8_fits 1 = .ok (.iload_n 2, 1) := by decide +kernel
theorem dX8_fits_2 : decode cX8_fits 2 = .ok (.iload_n 3, 1) := by decide +kernel
theorem dX8_fits_3 : decode cX8_fits 3 = .ok (.invokestatic 180, 3) := by decide +kernel
theorem dX8_fits_6 : decode cX8_fits 6 = .ok (.ifCond .ne 8, 3) := by decide +kernel
theorem dX8_fits_9 : decode cX8_fits 9 = .ok (.bipush (-2), 2) := by decide +kernel
theorem dX8_fits_11 : decode cX8_fits 11 = .ok (.goto 18, 3) := by decide +kernel
theorem dX8_fits_14 : decode cX8_fits 14 = .ok (.aload_n 0, 1) := by decide +kernel
theorem dX8_fits_15 : decode cX8_fits 15 = .ok (.iload_n 1, 1) := by decide +kernel
theorem dX8_fits_16 : decode cX8_fits 16 = .ok (.iload_n 2, 1) := by decide +kernel
theorem dX8_fits_17 : decode cX8_fits 17 = .ok (.iload_n 3, 1) := by decide +kernel
theorem dX8_fits_18 : decode cX8_fits 18 = .ok (.invokevirtual 183, 3) := by decide +kernel
theorem dX8_fits_21 : decode cX8_fits 21 = .ok (.ifCond .eq 7, 3) := by decide +kernel
theorem dX8_fits_24 : decode cX8_fits 24 = .ok (.iconst 1, 1) := by decide +kernel
theorem dX8_fits_25 : decode cX8_fits 25 = .ok (.goto 4, 3) := by decide +kernel
theorem dX8_fits_28 : decode cX8_fits 28 = .ok (.iconst 0, 1) := by decide +kernel
theorem dX8_fits_29 : decode cX8_fits 29 = .ok (.ireturn, 1) := by decide +kernel
def f_X8_fits (N : Nat) (x1 : Int32) (x2 : Int32) (x3 : Int32) (M : Mem) : Option (Int32 × Mem) := bd (f_X8_areAsked N x1 x2 x3 M) (fun v1 => if v1 = 0 then (some ((-2 : Int32), M)) else (bd (f_X8_colours N x1 x2 x3 M) (fun w5 => if w5.1 = 0 then (some ((0 : Int32), w5.2)) else (some ((1 : Int32), w5.2)))))
set_option maxRecDepth 100000 in
set_option maxHeartbeats 4000000 in
theorem c_X8_fits {l : Launch} {D : va_G} {ac : Nat → ClassId} {A : Nat → Prop} {ad : Nat → Nat} {rest : va_W} (N : Nat) (x1 : Int32) (x2 : Int32) (x3 : Int32)  (M : Mem) (r0 : Int32) (M0 : Mem) (hf : f_X8_fits N x1 x2 x3 M = some (r0, M0)) : CtI l D ac A tabM ad rest yX8_fits cX8_fits 4 .int 16 [.ref (ad 0), .int x1, .int x2, .int x3] M r0 M0 := by
  refine ct_ofI (own := RX8) (by decide +kernel) rfl (Nat.le_of_ble_eq_true rfl) ?_
  intro p e s m args below meth c C
  unfold f_X8_fits at hf
  refine a_L (L' := [(0, .ref (ad 0)), (1, .int x1), (2, .int x2), (3, .int x3)]) rfl ?_
  refine a_iload_n (pc := 0) C dX8_fits_0 1 rfl ?_
  refine a_iload_n (pc := 1) C dX8_fits_1 2 rfl ?_
  refine a_iload_n (pc := 2) C dX8_fits_2 3 rfl ?_
  refine a_callS_Ir (pc := 3) (d' := 2) C dX8_fits_3 ml_X8_180 mc_X8_areAsked ms_X8_areAsked [.int x1, .int x2, .int x3] rfl (Nat.le_of_ble_eq_true rfl) (Nat.le_of_ble_eq_true rfl) rfl (Nat.le_of_ble_eq_true rfl) (fun r h => c_X8_areAsked N x1 x2 x3  _  r h) hf (fun v1 hf => ?_)
  refine a_if_ne (pc := 6) 14 C dX8_fits_6 (by decide) hf (fun hf => ?_) (fun hf => ?_)
  · refine a_aload_n (pc := 14) C dX8_fits_14 0 rfl ?_
    refine a_iload_n (pc := 15) C dX8_fits_15 1 rfl ?_
    refine a_iload_n (pc := 16) C dX8_fits_16 2 rfl ?_
    refine a_iload_n (pc := 17) C dX8_fits_17 3 rfl ?_
    refine a_callV_I (pc := 18) (d' := 15) C dX8_fits_18 ml_X8_183 mc_X8_colours mv_X8_colours tm_0 rfl [.int x1, .int x2, .int x3] rfl (Nat.le_of_ble_eq_true rfl) (Nat.le_of_ble_eq_true rfl) rfl (Nat.le_of_ble_eq_true rfl) (fun r M' h => c_X8_colours N x1 x2 x3  _  r M' h) hf (fun v3 M4 hf => ?_)
    refine a_if_eq (pc := 21) 28 C dX8_fits_21 (by decide) hf (fun hf => ?_) (fun hf => ?_)
    · refine a_iconst (pc := 28) (v := 0) C dX8_fits_28 (by decide) ?_
      exact a_iret (pc := 29) C dX8_fits_29 (so_1 hf) (so_2 hf)
    · refine a_iconst (pc := 24) (v := 1) C dX8_fits_24 (by decide) ?_
      refine a_goto (pc := 25) 29 C dX8_fits_25 (by decide) ?_
      exact a_iret (pc := 29) C dX8_fits_29 (so_1 hf) (so_2 hf)
  · refine a_bipush (pc := 9) (v := (-2)) C dX8_fits_9 (by decide) ?_
    refine a_goto (pc := 11) 29 C dX8_fits_11 (by decide) ?_
    exact a_iret (pc := 29) C dX8_fits_29 (so_1 hf) (so_2 hf)
theorem dX8_place_0 : decode cX8_place 0 = .ok (.iload_n 1, 1) := by decide +kernel
theorem dX8_place_1 : decode cX8_place 1 = .ok (.iload_n 2, 1) := by decide +kernel
theorem dX8_place_2 : decode cX8_place 2 = .ok (.iload_n 3, 1) := by decide +kernel
theorem dX8_place_3 : decode cX8_place 3 = .ok (.invokestatic 180, 3) := by decide +kernel
theorem dX8_place_6 : decode cX8_place 6 = .ok (.ifCond .eq 12, 3) := by decide +kernel
theorem dX8_place_9 : decode cX8_place 9 = .ok (.aload_n 0, 1) := by decide +kernel
theorem dX8_place_10 : decode cX8_place 10 = .ok (.iload 4, 2) := by decide +kernel
theorem dX8_place_12 : decode cX8_place 12 = .ok (.invokevirtual 122, 3) := by decide +kernel
theorem dX8_place_15 : decode cX8_place 15 = .ok (.ifCond .ne 8, 3) := by decide +kernel
theorem dX8_place_18 : decode cX8_place 18 = .ok (.bipush (-2), 2) := by decide +kernel
theorem dX8_place_20 : decode cX8_place 20 = .ok (.goto 24, 3) := by decide +kernel
theorem dX8_place_23 : decode cX8_place 23 = .ok (.aload_n 0, 1) := by decide +kernel
theorem dX8_place_24 : decode cX8_place 24 = .ok (.iload_n 1, 1) := by decide +kernel
theorem dX8_place_25 : decode cX8_place 25 = .ok (.iload_n 2, 1) := by decide +kernel
theorem dX8_place_26 : decode cX8_place 26 = .ok (.iload_n 3, 1) := by decide +kernel
theorem dX8_place_27 : decode cX8_place 27 = .ok (.invokevirtual 183, 3) := by decide +kernel
theorem dX8_place_30 : decode cX8_place 30 = .ok (.ifCond .eq 13, 3) := by decide +kernel
theorem dX8_place_33 : decode cX8_place 33 = .ok (.aload_n 0, 1) := by decide +kernel
theorem dX8_place_34 : decode cX8_place 34 = .ok (.getfield 38, 3) := by decide +kernel
theorem dX8_place_37 : decode cX8_place 37 = .ok (.iload 4, 2) := by decide +kernel
theorem dX8_place_39 : decode cX8_place 39 = .ok (.iaload, 1) := by decide +kernel
theorem dX8_place_40 : decode cX8_place 40 = .ok (.goto 4, 3) := by decide +kernel
theorem dX8_place_43 : decode cX8_place 43 = .ok (.iconst (-1), 1) := by decide +kernel
theorem dX8_place_44 : decode cX8_place 44 = .ok (.ireturn, 1) := by decide +kernel
def f_X8_place (N : Nat) (x1 : Int32) (x2 : Int32) (x3 : Int32) (x4 : Int32) (M : Mem) : Option (Int32 × Mem) := bd (f_X8_areAsked N x1 x2 x3 M) (fun v1 => jn (fun (a18 : Unit) => some ((-2 : Int32), M)) (fun (k18 : Unit → Option (Int32 × Mem)) => if v1 = 0 then (k18 ()) else (bd (f_X8_isPoint N x4 M) (fun v3 => if v3 = 0 then (k18 ()) else (bd (f_X8_colours N x1 x2 x3 M) (fun w7 => if w7.1 = 0 then (some ((-1 : Int32), w7.2)) else (ck (inb x4 6) (some ((w7.2.1 7 x4.toNatClampNeg), w7.2)))))))))
set_option maxRecDepth 100000 in
set_option maxHeartbeats 4000000 in
theorem c_X8_place {l : Launch} {D : va_G} {ac : Nat → ClassId} {A : Nat → Prop} {ad : Nat → Nat} {rest : va_W} (N : Nat) (x1 : Int32) (x2 : Int32) (x3 : Int32) (x4 : Int32)  (M : Mem) (r0 : Int32) (M0 : Mem) (hf : f_X8_place N x1 x2 x3 x4 M = some (r0, M0)) : CtI l D ac A tabM ad rest yX8_place cX8_place 5 .int 16 [.ref (ad 0), .int x1, .int x2, .int x3, .int x4] M r0 M0 := by
  refine ct_ofI (own := RX8) (by decide +kernel) rfl (Nat.le_of_ble_eq_true rfl) ?_
  intro p e s m args below meth c C
  unfold f_X8_place at hf
  refine a_L (L' := [(0, .ref (ad 0)), (1, .int x1), (2, .int x2), (3, .int x3), (4, .int x4)]) rfl ?_
  refine a_iload_n (pc := 0) C dX8_place_0 1 rfl ?_
  refine a_iload_n (pc := 1) C dX8_place_1 2 rfl ?_
  refine a_iload_n (pc := 2) C dX8_place_2 3 rfl ?_
  refine a_callS_Ir (pc := 3) (d' := 2) C dX8_place_3 ml_X8_180 mc_X8_areAsked ms_X8_areAsked [.int x1, .int x2, .int x3] rfl (Nat.le_of_ble_eq_true rfl) (Nat.le_of_ble_eq_true rfl) rfl (Nat.le_of_ble_eq_true rfl) (fun r h => c_X8_areAsked N x1 x2 x3  _  r h) hf (fun v1 hf => ?_)
  refine a_jn 18 (fun a18 : Unit => []) (fun a18 : Unit => []) (fun a18 : Unit => M) hf (fun a18 hf => ?_) (fun k18 hk18 hf => ?_)
  · refine a_bipush (pc := 18) (v := (-2)) C dX8_place_18 (by decide) ?_
    refine a_goto (pc := 20) 44 C dX8_place_20 (by decide) ?_
    exact a_iret (pc := 44) C dX8_place_44 (so_1 hf) (so_2 hf)
  · refine a_if_eq (pc := 6) 18 C dX8_place_6 (by decide) hf (fun hf => ?_) (fun hf => ?_)
    · exact a_sub [] rfl (hk18 () hf)
    · refine a_aload_n (pc := 9) C dX8_place_9 0 rfl ?_
      refine a_iload (pc := 10) C dX8_place_10 4 rfl ?_
      refine a_callV_Ir (pc := 12) (d' := 2) C dX8_place_12 ml_X8_122 mc_X8_isPoint mv_X8_isPoint tm_0 rfl [.int x4] rfl (Nat.le_of_ble_eq_true rfl) (Nat.le_of_ble_eq_true rfl) rfl (Nat.le_of_ble_eq_true rfl) (fun r h => c_X8_isPoint N x4  _  r h) hf (fun v3 hf => ?_)
      refine a_if_ne (pc := 15) 23 C dX8_place_15 (by decide) hf (fun hf => ?_) (fun hf => ?_)
      · refine a_aload_n (pc := 23) C dX8_place_23 0 rfl ?_
        refine a_iload_n (pc := 24) C dX8_place_24 1 rfl ?_
        refine a_iload_n (pc := 25) C dX8_place_25 2 rfl ?_
        refine a_iload_n (pc := 26) C dX8_place_26 3 rfl ?_
        refine a_callV_I (pc := 27) (d' := 15) C dX8_place_27 ml_X8_183 mc_X8_colours mv_X8_colours tm_0 rfl [.int x1, .int x2, .int x3] rfl (Nat.le_of_ble_eq_true rfl) (Nat.le_of_ble_eq_true rfl) rfl (Nat.le_of_ble_eq_true rfl) (fun r M' h => c_X8_colours N x1 x2 x3  _  r M' h) hf (fun v5 M6 hf => ?_)
        refine a_if_eq (pc := 30) 43 C dX8_place_30 (by decide) hf (fun hf => ?_) (fun hf => ?_)
        · refine a_iconst (pc := 43) (v := (-1)) C dX8_place_43 (by decide) ?_
          exact a_iret (pc := 44) C dX8_place_44 (so_1 hf) (so_2 hf)
        · refine a_aload_n (pc := 33) C dX8_place_33 0 rfl ?_
          refine a_getR (pc := 34) C dX8_place_34 fl_X8_38 tm_0 rfl ?_
          refine a_iload (pc := 37) C dX8_place_37 4 rfl ?_
          refine a_iald (pc := 39) C dX8_place_39 tm_7 hf (fun hf => ?_)
          refine a_goto (pc := 40) 44 C dX8_place_40 (by decide) ?_
          exact a_iret (pc := 44) C dX8_place_44 (so_1 hf) (so_2 hf)
      · exact a_sub [] rfl (hk18 () hf)
theorem dX8_wholeOf_0 : decode cX8_wholeOf 0 = .ok (.iconst 1, 1) := by decide +kernel
theorem dX8_wholeOf_1 : decode cX8_wholeOf 1 = .ok (.istore_n 1, 1) := by decide +kernel
theorem dX8_wholeOf_2 : decode cX8_wholeOf 2 = .ok (.aload_n 0, 1) := by decide +kernel
theorem dX8_wholeOf_3 : decode cX8_wholeOf 3 = .ok (.iload_n 1, 1) := by decide +kernel
theorem dX8_wholeOf_4 : decode cX8_wholeOf 4 = .ok (.iconst 1, 1) := by decide +kernel
theorem dX8_wholeOf_5 : decode cX8_wholeOf 5 = .ok (.iconst 0, 1) := by decide +kernel
theorem dX8_wholeOf_6 : decode cX8_wholeOf 6 = .ok (.invokevirtual 183, 3) := by decide +kernel
theorem dX8_wholeOf_9 : decode cX8_wholeOf 9 = .ok (.ifCond .ne 9, 3) := by decide +kernel
theorem dX8_wholeOf_12 : decode cX8_wholeOf 12 = .ok (.iinc 1 1, 3) := by decide +kernel
theorem dX8_wholeOf_15 : decode cX8_wholeOf 15 = .ok (.goto (-13), 3) := by decide +kernel
theorem dX8_wholeOf_18 : decode cX8_wholeOf 18 = .ok (.iload_n 1, 1) := by decide +kernel
theorem dX8_wholeOf_19 : decode cX8_wholeOf 19 = .ok (.ireturn, 1) := by decide +kernel
def f_X8_wholeOf (N : Nat)  (M : Mem) : Option (Int32 × Mem) := lp (fun (k2 : (Int32 × Mem) → Option (Int32 × Mem)) (a2 : Int32 × Mem) => bd (f_X8_colours N a2.1 (1 : Int32) (0 : Int32) a2.2) (fun w3 => if w3.1 = 0 then (nm (a2.1 + (1 : Int32)) (fun v4 => k2 (v4, w3.2))) else (some (a2.1, w3.2)))) N ((1 : Int32), M)
set_option maxRecDepth 100000 in
set_option maxHeartbeats 4000000 in
theorem c_X8_wholeOf {l : Launch} {D : va_G} {ac : Nat → ClassId} {A : Nat → Prop} {ad : Nat → Nat} {rest : va_W} (N : Nat)   (M : Mem) (r0 : Int32) (M0 : Mem) (hf : f_X8_wholeOf N  M = some (r0, M0)) : CtI l D ac A tabM ad rest yX8_wholeOf cX8_wholeOf 2 .int 16 [.ref (ad 0)] M r0 M0 := by
  refine ct_ofI (own := RX8) (by decide +kernel) rfl (Nat.le_of_ble_eq_true rfl) ?_
  intro p e s m args below meth c C
  unfold f_X8_wholeOf at hf
  refine a_L (L' := [(0, .ref (ad 0))]) rfl ?_
  refine a_iconst (pc := 0) (v := 1) C dX8_wholeOf_0 (by decide) ?_
  refine a_istore_n (pc := 1) [(1, .int (1 : Int32)), (0, .ref (ad 0))] C dX8_wholeOf_1 (by decide) rfl ?_
  refine a_sub [1, 0] rfl ?_
  refine a_lp 2 (fun a2 : Int32 × Mem => [(0, .ref (ad 0)), (1, .int a2.1)]) (fun a2 : Int32 × Mem => []) (fun a2 : Int32 × Mem => a2.2) (fun k2 a2 hk2 hf => ?_) N ((1 : Int32), M) hf
  refine a_aload_n (pc := 2) C dX8_wholeOf_2 0 rfl ?_
  refine a_iload_n (pc := 3) C dX8_wholeOf_3 1 rfl ?_
  refine a_iconst (pc := 4) (v := 1) C dX8_wholeOf_4 (by decide) ?_
  refine a_iconst (pc := 5) (v := 0) C dX8_wholeOf_5 (by decide) ?_
  refine a_callV_I (pc := 6) (d' := 15) C dX8_wholeOf_6 ml_X8_183 mc_X8_colours mv_X8_colours tm_0 rfl [.int a2.1, .int (1 : Int32), .int (0 : Int32)] rfl (Nat.le_of_ble_eq_true rfl) (Nat.le_of_ble_eq_true rfl) rfl (Nat.le_of_ble_eq_true rfl) (fun r M' h => c_X8_colours N a2.1 (1 : Int32) (0 : Int32)  _  r M' h) hf (fun v1 M2 hf => ?_)
  refine a_if_ne (pc := 9) 18 C dX8_wholeOf_9 (by decide) hf (fun hf => ?_) (fun hf => ?_)
  · refine a_iload_n (pc := 18) C dX8_wholeOf_18 1 rfl ?_
    exact a_iret (pc := 19) C dX8_wholeOf_19 (so_1 hf) (so_2 hf)
  · refine a_iinc (pc := 12) (v := 1) (fun v4 => [(1, .int v4), (0, .ref (ad 0))]) C dX8_wholeOf_12 1 rfl (by decide) (by decide) (fun _ => rfl) hf (fun v4 hf => ?_)
    refine a_goto (pc := 15) 2 C dX8_wholeOf_15 (by decide) ?_
    exact a_sub [1, 0] rfl (hk2 (v4, M2) hf)
