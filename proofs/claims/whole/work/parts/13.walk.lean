theorem dX2_openTo_0 : decode cX2_openTo 0 = .ok (.aload_n 0, 1) := by decide +kernel
theorem dX2_openTo_1 : decode cX2_openTo 1 = .ok (.getfield 21, 3) := by decide +kernel
theorem dX2_openTo_4 : decode cX2_openTo 4 = .ok (.iload_n 2, 1) := by decide +kernel
theorem dX2_openTo_5 : decode cX2_openTo 5 = .ok (.laload, 1) := by decide +kernel
theorem dX2_openTo_6 : decode cX2_openTo 6 = .ok (.lstore_n 3, 1) := by decide +kernel
theorem dX2_openTo_7 : decode cX2_openTo 7 = .ok (.iconst 0, 1) := by decide +kernel
theorem dX2_openTo_8 : decode cX2_openTo 8 = .ok (.istore 5, 2) := by decide +kernel
theorem dX2_openTo_10 : decode cX2_openTo 10 = .ok (.iload 5, 2) := by decide +kernel
theorem dX2_openTo_12 : decode cX2_openTo 12 = .ok (.aload_n 1, 1) := by decide +kernel
theorem dX2_openTo_13 : decode cX2_openTo 13 = .ok (.getfield 43, 3) := by decide +kernel
theorem dX2_openTo_16 : decode cX2_openTo 16 = .ok (.if_icmp .ge 46, 3) := by decide +kernel
theorem dX2_openTo_19 : decode cX2_openTo 19 = .ok (.aload_n 1, 1) := by decide +kernel
theorem dX2_openTo_20 : decode cX2_openTo 20 = .ok (.getfield 77, 3) := by decide +kernel
theorem dX2_openTo_23 : decode cX2_openTo 23 = .ok (.iload 5, 2) := by decide +kernel
theorem dX2_openTo_25 : decode cX2_openTo 25 = .ok (.iaload, 1) := by decide +kernel
theorem dX2_openTo_26 : decode cX2_openTo 26 = .ok (.iload_n 2, 1) := by decide +kernel
theorem dX2_openTo_27 : decode cX2_openTo 27 = .ok (.if_icmp .ne 29, 3) := by decide +kernel
theorem dX2_openTo_30 : decode cX2_openTo 30 = .ok (.lload_n 3, 1) := by decide +kernel
theorem dX2_openTo_31 : decode cX2_openTo 31 = .ok (.aload_n 0, 1) := by decide +kernel
theorem dX2_openTo_32 : decode cX2_openTo 32 = .ok (.aload_n 0, 1) := by decide +kernel
theorem dX2_openTo_33 : decode cX2_openTo 33 = .ok (.getfield 15, 3) := by decide +kernel
theorem dX2_openTo_36 : decode cX2_openTo 36 = .ok (.aload_n 1, 1) := by decide +kernel
theorem dX2_openTo_37 : decode cX2_openTo 37 = .ok (.getfield 50, 3) := by decide +kernel
theorem dX2_openTo_40 : decode cX2_openTo 40 = .ok (.iload 5, 2) := by decide +kernel
theorem dX2_openTo_42 : decode cX2_openTo 42 = .ok (.iaload, 1) := by decide +kernel
theorem dX2_openTo_43 : decode cX2_openTo 43 = .ok (.iaload, 1) := by decide +kernel
theorem dX2_openTo_44 : decode cX2_openTo 44 = .ok (.aload_n 0, 1) := by decide +kernel
theorem dX2_openTo_45 : decode cX2_openTo 45 = .ok (.getfield 18, 3) := by decide +kernel
theorem dX2_openTo_48 : decode cX2_openTo 48 = .ok (.iload 5, 2) := by decide +kernel
theorem dX2_openTo_50 : decode cX2_openTo 50 = .ok (.iaload, 1) := by decide +kernel
theorem dX2_openTo_51 : decode cX2_openTo 51 = .ok (.invokevirtual 96, 3) := by decide +kernel
theorem dX2_openTo_54 : decode cX2_openTo 54 = .ok (.land, 1) := by decide +kernel
theorem dX2_openTo_55 : decode cX2_openTo 55 = .ok (.lstore_n 3, 1) := by decide +kernel
theorem dX2_openTo_56 : decode cX2_openTo 56 = .ok (.iinc 5 1, 3) := by decide +kernel
theorem dX2_openTo_59 : decode cX2_openTo 59 = .ok (.goto (-49), 3) := by decide +kernel
theorem dX2_openTo_62 : decode cX2_openTo 62 = .ok (.lload_n 3, 1) := by decide +kernel
theorem dX2_openTo_63 : decode cX2_openTo 63 = .ok (.lreturn, 1) := by decide +kernel
def f_X2_openTo (N : Nat) (c1 : Nat) (x2 : Int32) (M : Mem) : Option (Int64) := ck (inb x2 6) (nm (M.2 30 x2.toNatClampNeg) (fun v1 => lp (fun (k10 : (Int64 × Int32) → Option (Int64)) (a10 : Int64 × Int32) => if (M.1 c1 1) ≤ a10.2 then (some a10.1) else (ck (inb a10.2 10) (jn (fun (a56 : Int64) => nm (a10.2 + (1 : Int32)) (fun v2 => k10 (a56, v2))) (fun (k56 : Int64 → Option (Int64)) => if (M.1 (c1 + 4) a10.2.toNatClampNeg) = x2 then (ck (inb a10.2 10) (ck (inb (M.1 (c1 + 3) a10.2.toNatClampNeg) 6) (ck (inb a10.2 10) (bd (f_X2_apartFrom N (M.1 28 (M.1 (c1 + 3) a10.2.toNatClampNeg).toNatClampNeg) (M.1 29 a10.2.toNatClampNeg) M) (fun v3 => nm (a10.1 &&& v3) (fun v5 => k56 v5)))))) else (k56 a10.1))))) N (v1, (0 : Int32))))
set_option maxRecDepth 100000 in
set_option maxHeartbeats 4000000 in
theorem c_X2_openTo {l : Launch} {D : va_G} {ac : Nat → ClassId} {A : Nat → Prop} {ad : Nat → Nat} {rest : va_W} (N : Nat) (c1 : Nat) (x2 : Int32) (hc1 : NetAt tabX c1) (M : Mem) (r0 : Int64) (hf : f_X2_openTo N c1 x2 M = some r0) : CtJ l D ac A tabX ad rest yX2_openTo cX2_openTo 6  2 [.ref (ad 26), .ref (ad c1), .int x2] M r0 M := by
  refine ct_ofJ (own := RX2) (by decide +kernel) rfl (Nat.le_of_ble_eq_true rfl) ?_
  intro p e s m args below meth c C
  unfold f_X2_openTo at hf
  refine a_L (L' := [(0, .ref (ad 26)), (1, .ref (ad c1)), (2, .int x2)]) rfl ?_
  refine a_aload_n (pc := 0) C dX2_openTo_0 0 rfl ?_
  refine a_getR (pc := 1) C dX2_openTo_1 fl_X2_21 tx_26 rfl ?_
  refine a_iload_n (pc := 4) C dX2_openTo_4 2 rfl ?_
  refine a_lald (pc := 5) C dX2_openTo_5 tx_30 hf (fun hf => ?_)
  refine a_nml hf (fun v1 hf => ?_)
  refine a_lstore_n (pc := 6) [(3, .long v1), (0, .ref (ad 26)), (1, .ref (ad c1)), (2, .int x2)] C dX2_openTo_6 (by decide) rfl ?_
  refine a_iconst (pc := 7) (v := 0) C dX2_openTo_7 (by decide) ?_
  refine a_istore (pc := 8) [(5, .int (0 : Int32)), (3, .long v1), (0, .ref (ad 26)), (1, .ref (ad c1)), (2, .int x2)] C dX2_openTo_8 (by decide) rfl ?_
  refine a_sub [2, 3, 4, 1, 0] rfl ?_
  refine a_lp 10 (fun a10 : Int64 × Int32 => [(0, .ref (ad 26)), (1, .ref (ad c1)), (2, .int x2), (3, .long a10.1), (5, .int a10.2)]) (fun a10 : Int64 × Int32 => []) (fun a10 : Int64 × Int32 => M) (fun k10 a10 hk10 hf => ?_) N (v1, (0 : Int32)) hf
  refine a_iload (pc := 10) C dX2_openTo_10 4 rfl ?_
  refine a_aload_n (pc := 12) C dX2_openTo_12 1 rfl ?_
  refine a_getI (pc := 13) C dX2_openTo_13 fl_X2_43 hc1.1 rfl ?_
  refine a_icmp_ge (pc := 16) 62 C dX2_openTo_16 (by decide) hf (fun hf => ?_) (fun hf => ?_)
  · refine a_lload_n (pc := 62) C dX2_openTo_62 3 rfl ?_
    exact a_lret (pc := 63) C dX2_openTo_63 (Option.some.inj hf) rfl
  · refine a_aload_n (pc := 19) C dX2_openTo_19 1 rfl ?_
    refine a_getR (pc := 20) C dX2_openTo_20 fl_X2_77 hc1.1 rfl ?_
    refine a_iload (pc := 23) C dX2_openTo_23 4 rfl ?_
    refine a_iald (pc := 25) C dX2_openTo_25 hc1.2.2.2.2.1 hf (fun hf => ?_)
    refine a_iload_n (pc := 26) C dX2_openTo_26 2 rfl ?_
    refine a_jn 56 (fun a56 : Int64 => [(0, .ref (ad 26)), (1, .ref (ad c1)), (2, .int x2), (3, .long a56), (5, .int a10.2)]) (fun a56 : Int64 => []) (fun a56 : Int64 => M) hf (fun a56 hf => ?_) (fun k56 hk56 hf => ?_)
    · refine a_iinc (pc := 56) (v := 1) (fun v2 => [(5, .int v2), (0, .ref (ad 26)), (1, .ref (ad c1)), (2, .int x2), (3, .long a56)]) C dX2_openTo_56 4 rfl (by decide) (by decide) (fun _ => rfl) hf (fun v2 hf => ?_)
      refine a_goto (pc := 59) 10 C dX2_openTo_59 (by decide) ?_
      exact a_sub [1, 2, 3, 4, 0] rfl (hk10 (a56, v2) hf)
    · refine a_icmp_ne (pc := 27) 56 C dX2_openTo_27 (by decide) hf (fun hf => ?_) (fun hf => ?_)
      · exact a_sub [0, 1, 2, 3, 4] rfl (hk56 a10.1 hf)
      · refine a_lload_n (pc := 30) C dX2_openTo_30 3 rfl ?_
        refine a_aload_n (pc := 31) C dX2_openTo_31 0 rfl ?_
        refine a_aload_n (pc := 32) C dX2_openTo_32 0 rfl ?_
        refine a_getR (pc := 33) C dX2_openTo_33 fl_X2_15 tx_26 rfl ?_
        refine a_aload_n (pc := 36) C dX2_openTo_36 1 rfl ?_
        refine a_getR (pc := 37) C dX2_openTo_37 fl_X2_50 hc1.1 rfl ?_
        refine a_iload (pc := 40) C dX2_openTo_40 4 rfl ?_
        refine a_iald (pc := 42) C dX2_openTo_42 hc1.2.2.2.1 hf (fun hf => ?_)
        refine a_iald (pc := 43) C dX2_openTo_43 tx_28 hf (fun hf => ?_)
        refine a_aload_n (pc := 44) C dX2_openTo_44 0 rfl ?_
        refine a_getR (pc := 45) C dX2_openTo_45 fl_X2_18 tx_26 rfl ?_
        refine a_iload (pc := 48) C dX2_openTo_48 4 rfl ?_
        refine a_iald (pc := 50) C dX2_openTo_50 tx_29 hf (fun hf => ?_)
        refine a_callV_Jr (pc := 51) (d' := 1) C dX2_openTo_51 ml_X2_96 mc_X2_apartFrom mv_X2_apartFrom tx_26 rfl [.int (M.1 28 (M.1 (c1 + 3) a10.2.toNatClampNeg).toNatClampNeg), .int (M.1 29 a10.2.toNatClampNeg)] rfl (Nat.le_of_ble_eq_true rfl) (Nat.le_of_ble_eq_true rfl) rfl (Nat.le_of_ble_eq_true rfl) (fun r h => c_X2_apartFrom N (M.1 28 (M.1 (c1 + 3) a10.2.toNatClampNeg).toNatClampNeg) (M.1 29 a10.2.toNatClampNeg)  _  r h) hf (fun v3 hf => ?_)
        refine a_land (pc := 54) C dX2_openTo_54 ?_
        refine a_nml hf (fun v5 hf => ?_)
        refine a_lstore_n (pc := 55) [(3, .long v5), (0, .ref (ad 26)), (1, .ref (ad c1)), (2, .int x2), (5, .int a10.2)] C dX2_openTo_55 (by decide) rfl ?_
        exact a_sub [1, 2, 3, 0, 4] rfl (hk56 v5 hf)
theorem dX3_aboveOf_0 : decode cX3_aboveOf 0 = .ok (.iload_n 2, 1) := by decide +kernel
theorem dX3_aboveOf_1 : decode cX3_aboveOf 1 = .ok (.tableswitch 115 0 3 #[31, 60, 89, 102], 31) := by decide +kernel
theorem dX3_aboveOf_32 : decode cX3_aboveOf 32 = .ok (.aload_n 0, 1) := by decide +kernel
theorem dX3_aboveOf_33 : decode cX3_aboveOf 33 = .ok (.aload_n 0, 1) := by decide +kernel
theorem dX3_aboveOf_34 : decode cX3_aboveOf 34 = .ok (.aload_n 1, 1) := by decide +kernel
theorem dX3_aboveOf_35 : decode cX3_aboveOf 35 = .ok (.getfield 9, 3) := by decide +kernel
theorem dX3_aboveOf_38 : decode cX3_aboveOf 38 = .ok (.aload_n 3, 1) := by decide +kernel
theorem dX3_aboveOf_39 : decode cX3_aboveOf 39 = .ok (.getfield 15, 3) := by decide +kernel
theorem dX3_aboveOf_42 : decode cX3_aboveOf 42 = .ok (.invokevirtual 18, 3) := by decide +kernel
theorem dX3_aboveOf_45 : decode cX3_aboveOf 45 = .ok (.aload_n 0, 1) := by decide +kernel
theorem dX3_aboveOf_46 : decode cX3_aboveOf 46 = .ok (.aload_n 3, 1) := by decide +kernel
theorem dX3_aboveOf_47 : decode cX3_aboveOf 47 = .ok (.getfield 9, 3) := by decide +kernel
theorem dX3_aboveOf_50 : decode cX3_aboveOf 50 = .ok (.aload_n 1, 1) := by decide +kernel
theorem dX3_aboveOf_51 : decode cX3_aboveOf 51 = .ok (.getfield 15, 3) := by decide +kernel
theorem dX3_aboveOf_54 : decode cX3_aboveOf 54 = .ok (.invokevirtual 18, 3) := by decide +kernel
theorem dX3_aboveOf_57 : decode cX3_aboveOf 57 = .ok (.invokevirtual 24, 3) := by decide +kernel
theorem dX3_aboveOf_60 : decode cX3_aboveOf 60 = .ok (.lreturn, 1) := by decide +kernel
theorem dX3_aboveOf_61 : decode cX3_aboveOf 61 = .ok (.aload_n 0, 1) := by decide +kernel
theorem dX3_aboveOf_62 : decode cX3_aboveOf 62 = .ok (.aload_n 0, 1) := by decide +kernel
theorem dX3_aboveOf_63 : decode cX3_aboveOf 63 = .ok (.aload_n 1, 1) := by decide +kernel
theorem dX3_aboveOf_64 : decode cX3_aboveOf 64 = .ok (.getfield 9, 3) := by decide +kernel
theorem dX3_aboveOf_67 : decode cX3_aboveOf 67 = .ok (.aload_n 3, 1) := by decide +kernel
theorem dX3_aboveOf_68 : decode cX3_aboveOf 68 = .ok (.getfield 15, 3) := by decide +kernel
theorem dX3_aboveOf_71 : decode cX3_aboveOf 71 = .ok (.invokevirtual 18, 3) := by decide +kernel
theorem dX3_aboveOf_74 : decode cX3_aboveOf 74 = .ok (.aload_n 0, 1) := by decide +kernel
theorem dX3_aboveOf_75 : decode cX3_aboveOf 75 = .ok (.aload_n 3, 1) := by decide +kernel
theorem dX3_aboveOf_76 : decode cX3_aboveOf 76 = .ok (.getfield 9, 3) := by decide +kernel
theorem dX3_aboveOf_79 : decode cX3_aboveOf 79 = .ok (.aload_n 1, 1) := by decide +kernel
theorem dX3_aboveOf_80 : decode cX3_aboveOf 80 = .ok (.getfield 15, 3) := by decide +kernel
theorem dX3_aboveOf_83 : decode cX3_aboveOf 83 = .ok (.invokevirtual 18, 3) := by decide +kernel
theorem dX3_aboveOf_86 : decode cX3_aboveOf 86 = .ok (.invokevirtual 27, 3) := by decide +kernel
theorem dX3_aboveOf_89 : decode cX3_aboveOf 89 = .ok (.lreturn, 1) := by decide +kernel
theorem dX3_aboveOf_90 : decode cX3_aboveOf 90 = .ok (.aload_n 0, 1) := by decide +kernel
theorem dX3_aboveOf_91 : decode cX3_aboveOf 91 = .ok (.aload_n 1, 1) := by decide +kernel
theorem dX3_aboveOf_92 : decode cX3_aboveOf 92 = .ok (.getfield 9, 3) := by decide +kernel
theorem dX3_aboveOf_95 : decode cX3_aboveOf 95 = .ok (.aload_n 3, 1) := by decide +kernel
theorem dX3_aboveOf_96 : decode cX3_aboveOf 96 = .ok (.getfield 9, 3) := by decide +kernel
theorem dX3_aboveOf_99 : decode cX3_aboveOf 99 = .ok (.invokevirtual 18, 3) := by decide +kernel
theorem dX3_aboveOf_102 : decode cX3_aboveOf 102 = .ok (.lreturn, 1) := by decide +kernel
theorem dX3_aboveOf_103 : decode cX3_aboveOf 103 = .ok (.aload_n 0, 1) := by decide +kernel
theorem dX3_aboveOf_104 : decode cX3_aboveOf 104 = .ok (.aload_n 1, 1) := by decide +kernel
theorem dX3_aboveOf_105 : decode cX3_aboveOf 105 = .ok (.getfield 9, 3) := by decide +kernel
theorem dX3_aboveOf_108 : decode cX3_aboveOf 108 = .ok (.aload_n 3, 1) := by decide +kernel
theorem dX3_aboveOf_109 : decode cX3_aboveOf 109 = .ok (.getfield 15, 3) := by decide +kernel
theorem dX3_aboveOf_112 : decode cX3_aboveOf 112 = .ok (.invokevirtual 18, 3) := by decide +kernel
theorem dX3_aboveOf_115 : decode cX3_aboveOf 115 = .ok (.lreturn, 1) := by decide +kernel
theorem dX3_aboveOf_116 : decode cX3_aboveOf 116 = .ok (.aload_n 0, 1) := by decide +kernel
theorem dX3_aboveOf_117 : decode cX3_aboveOf 117 = .ok (.aload_n 1, 1) := by decide +kernel
theorem dX3_aboveOf_118 : decode cX3_aboveOf 118 = .ok (.getfield 9, 3) := by decide +kernel
theorem dX3_aboveOf_121 : decode cX3_aboveOf 121 = .ok (.aload_n 3, 1) := by decide +kernel
theorem dX3_aboveOf_122 : decode cX3_aboveOf 122 = .ok (.getfield 9, 3) := by decide +kernel
theorem dX3_aboveOf_125 : decode cX3_aboveOf 125 = .ok (.invokevirtual 24, 3) := by decide +kernel
theorem dX3_aboveOf_128 : decode cX3_aboveOf 128 = .ok (.lreturn, 1) := by decide +kernel
def f_X3_aboveOf (N : Nat) (c1 : Nat) (x2 : Int32) (c3 : Nat) (M : Mem) : Option (Int64 × Mem) := if x2 = 0 then (bd (f_X3_times N (M.2 c1 1) (M.2 c3 2) M) (fun w4 => bd (f_X3_times N (w4.2.2 c3 1) (w4.2.2 c1 2) w4.2) (fun w7 => bd (f_X3_plus N w4.1 w7.1 w7.2) (fun w10 => some (w10.1, w10.2))))) else if x2 = 1 then (bd (f_X3_times N (M.2 c1 1) (M.2 c3 2) M) (fun w14 => bd (f_X3_times N (w14.2.2 c3 1) (w14.2.2 c1 2) w14.2) (fun w17 => bd (f_X3_less N w14.1 w17.1 w17.2) (fun w20 => some (w20.1, w20.2))))) else if x2 = 2 then (bd (f_X3_times N (M.2 c1 1) (M.2 c3 1) M) (fun w24 => some (w24.1, w24.2))) else if x2 = 3 then (bd (f_X3_times N (M.2 c1 1) (M.2 c3 2) M) (fun w28 => some (w28.1, w28.2))) else (bd (f_X3_plus N (M.2 c1 1) (M.2 c3 1) M) (fun w31 => some (w31.1, w31.2)))
set_option maxRecDepth 100000 in
set_option maxHeartbeats 4000000 in
theorem c_X3_aboveOf {l : Launch} {D : va_G} {ac : Nat → ClassId} {A : Nat → Prop} {ad : Nat → Nat} {rest : va_W} (N : Nat) (c1 : Nat) (x2 : Int32) (c3 : Nat) (hc1 : HoldAt tabX c1) (hc3 : HoldAt tabX c3) (M : Mem) (r0 : Int64) (M0 : Mem) (hf : f_X3_aboveOf N c1 x2 c3 M = some (r0, M0)) : CtJ l D ac A tabX ad rest yX3_aboveOf cX3_aboveOf 4  2 [.ref (ad 33), .ref (ad c1), .int x2, .ref (ad c3)] M r0 M0 := by
  refine ct_ofJ (own := RX3) (by decide +kernel) rfl (Nat.le_of_ble_eq_true rfl) ?_
  intro p e s m args below meth c C
  unfold f_X3_aboveOf at hf
  refine a_L (L' := [(0, .ref (ad 33)), (1, .ref (ad c1)), (2, .int x2), (3, .ref (ad c3))]) rfl ?_
  refine a_iload_n (pc := 0) C dX3_aboveOf_0 2 rfl ?_
  by_cases hs1 : x2 = 0
  · rw [if_pos hs1] at hf
    refine a_tabIn (pc := 1) (off := 31) 32 C dX3_aboveOf_1 (by rw [hs1]; decide) (by rw [hs1]; decide) (by rw [hs1]; rfl) (by decide) ?_
    refine a_aload_n (pc := 32) C dX3_aboveOf_32 0 rfl ?_
    refine a_aload_n (pc := 33) C dX3_aboveOf_33 0 rfl ?_
    refine a_aload_n (pc := 34) C dX3_aboveOf_34 1 rfl ?_
    refine a_getJ (pc := 35) C dX3_aboveOf_35 fl_X3_9 hc1 rfl ?_
    refine a_aload_n (pc := 38) C dX3_aboveOf_38 3 rfl ?_
    refine a_getJ (pc := 39) C dX3_aboveOf_39 fl_X3_15 hc3 rfl ?_
    refine a_callV_J (pc := 42) (d' := 1) C dX3_aboveOf_42 ml_X3_18 mc_X3_times mv_X3_times tx_33 rfl [.long (M.2 c1 1), .long (M.2 c3 2)] rfl (Nat.le_of_ble_eq_true rfl) (Nat.le_of_ble_eq_true rfl) rfl (Nat.le_of_ble_eq_true rfl) (fun r M' h => c_X3_times N (M.2 c1 1) (M.2 c3 2)  _  r M' h) hf (fun v2 M3 hf => ?_)
    refine a_aload_n (pc := 45) C dX3_aboveOf_45 0 rfl ?_
    refine a_aload_n (pc := 46) C dX3_aboveOf_46 3 rfl ?_
    refine a_getJ (pc := 47) C dX3_aboveOf_47 fl_X3_9 hc3 rfl ?_
    refine a_aload_n (pc := 50) C dX3_aboveOf_50 1 rfl ?_
    refine a_getJ (pc := 51) C dX3_aboveOf_51 fl_X3_15 hc1 rfl ?_
    refine a_callV_J (pc := 54) (d' := 1) C dX3_aboveOf_54 ml_X3_18 mc_X3_times mv_X3_times tx_33 rfl [.long (M3.2 c3 1), .long (M3.2 c1 2)] rfl (Nat.le_of_ble_eq_true rfl) (Nat.le_of_ble_eq_true rfl) rfl (Nat.le_of_ble_eq_true rfl) (fun r M' h => c_X3_times N (M3.2 c3 1) (M3.2 c1 2)  _  r M' h) hf (fun v5 M6 hf => ?_)
    refine a_callV_J (pc := 57) (d' := 1) C dX3_aboveOf_57 ml_X3_24 mc_X3_plus mv_X3_plus tx_33 rfl [.long v2, .long v5] rfl (Nat.le_of_ble_eq_true rfl) (Nat.le_of_ble_eq_true rfl) rfl (Nat.le_of_ble_eq_true rfl) (fun r M' h => c_X3_plus N v2 v5  _  r M' h) hf (fun v8 M9 hf => ?_)
    exact a_lret (pc := 60) C dX3_aboveOf_60 (so_1 hf) (so_2 hf)
  · rw [if_neg hs1] at hf
    by_cases hs11 : x2 = 1
    · rw [if_pos hs11] at hf
      refine a_tabIn (pc := 1) (off := 60) 61 C dX3_aboveOf_1 (by rw [hs11]; decide) (by rw [hs11]; decide) (by rw [hs11]; rfl) (by decide) ?_
      refine a_aload_n (pc := 61) C dX3_aboveOf_61 0 rfl ?_
      refine a_aload_n (pc := 62) C dX3_aboveOf_62 0 rfl ?_
      refine a_aload_n (pc := 63) C dX3_aboveOf_63 1 rfl ?_
      refine a_getJ (pc := 64) C dX3_aboveOf_64 fl_X3_9 hc1 rfl ?_
      refine a_aload_n (pc := 67) C dX3_aboveOf_67 3 rfl ?_
      refine a_getJ (pc := 68) C dX3_aboveOf_68 fl_X3_15 hc3 rfl ?_
      refine a_callV_J (pc := 71) (d' := 1) C dX3_aboveOf_71 ml_X3_18 mc_X3_times mv_X3_times tx_33 rfl [.long (M.2 c1 1), .long (M.2 c3 2)] rfl (Nat.le_of_ble_eq_true rfl) (Nat.le_of_ble_eq_true rfl) rfl (Nat.le_of_ble_eq_true rfl) (fun r M' h => c_X3_times N (M.2 c1 1) (M.2 c3 2)  _  r M' h) hf (fun v12 M13 hf => ?_)
      refine a_aload_n (pc := 74) C dX3_aboveOf_74 0 rfl ?_
      refine a_aload_n (pc := 75) C dX3_aboveOf_75 3 rfl ?_
      refine a_getJ (pc := 76) C dX3_aboveOf_76 fl_X3_9 hc3 rfl ?_
      refine a_aload_n (pc := 79) C dX3_aboveOf_79 1 rfl ?_
      refine a_getJ (pc := 80) C dX3_aboveOf_80 fl_X3_15 hc1 rfl ?_
      refine a_callV_J (pc := 83) (d' := 1) C dX3_aboveOf_83 ml_X3_18 mc_X3_times mv_X3_times tx_33 rfl [.long (M13.2 c3 1), .long (M13.2 c1 2)] rfl (Nat.le_of_ble_eq_true rfl) (Nat.le_of_ble_eq_true rfl) rfl (Nat.le_of_ble_eq_true rfl) (fun r M' h => c_X3_times N (M13.2 c3 1) (M13.2 c1 2)  _  r M' h) hf (fun v15 M16 hf => ?_)
      refine a_callV_J (pc := 86) (d' := 1) C dX3_aboveOf_86 ml_X3_27 mc_X3_less mv_X3_less tx_33 rfl [.long v12, .long v15] rfl (Nat.le_of_ble_eq_true rfl) (Nat.le_of_ble_eq_true rfl) rfl (Nat.le_of_ble_eq_true rfl) (fun r M' h => c_X3_less N v12 v15  _  r M' h) hf (fun v18 M19 hf => ?_)
      exact a_lret (pc := 89) C dX3_aboveOf_89 (so_1 hf) (so_2 hf)
    · rw [if_neg hs11] at hf
      by_cases hs21 : x2 = 2
      · rw [if_pos hs21] at hf
        refine a_tabIn (pc := 1) (off := 89) 90 C dX3_aboveOf_1 (by rw [hs21]; decide) (by rw [hs21]; decide) (by rw [hs21]; rfl) (by decide) ?_
        refine a_aload_n (pc := 90) C dX3_aboveOf_90 0 rfl ?_
        refine a_aload_n (pc := 91) C dX3_aboveOf_91 1 rfl ?_
        refine a_getJ (pc := 92) C dX3_aboveOf_92 fl_X3_9 hc1 rfl ?_
        refine a_aload_n (pc := 95) C dX3_aboveOf_95 3 rfl ?_
        refine a_getJ (pc := 96) C dX3_aboveOf_96 fl_X3_9 hc3 rfl ?_
        refine a_callV_J (pc := 99) (d' := 1) C dX3_aboveOf_99 ml_X3_18 mc_X3_times mv_X3_times tx_33 rfl [.long (M.2 c1 1), .long (M.2 c3 1)] rfl (Nat.le_of_ble_eq_true rfl) (Nat.le_of_ble_eq_true rfl) rfl (Nat.le_of_ble_eq_true rfl) (fun r M' h => c_X3_times N (M.2 c1 1) (M.2 c3 1)  _  r M' h) hf (fun v22 M23 hf => ?_)
        exact a_lret (pc := 102) C dX3_aboveOf_102 (so_1 hf) (so_2 hf)
      · rw [if_neg hs21] at hf
        by_cases hs25 : x2 = 3
        · rw [if_pos hs25] at hf
          refine a_tabIn (pc := 1) (off := 102) 103 C dX3_aboveOf_1 (by rw [hs25]; decide) (by rw [hs25]; decide) (by rw [hs25]; rfl) (by decide) ?_
          refine a_aload_n (pc := 103) C dX3_aboveOf_103 0 rfl ?_
          refine a_aload_n (pc := 104) C dX3_aboveOf_104 1 rfl ?_
          refine a_getJ (pc := 105) C dX3_aboveOf_105 fl_X3_9 hc1 rfl ?_
          refine a_aload_n (pc := 108) C dX3_aboveOf_108 3 rfl ?_
          refine a_getJ (pc := 109) C dX3_aboveOf_109 fl_X3_15 hc3 rfl ?_
          refine a_callV_J (pc := 112) (d' := 1) C dX3_aboveOf_112 ml_X3_18 mc_X3_times mv_X3_times tx_33 rfl [.long (M.2 c1 1), .long (M.2 c3 2)] rfl (Nat.le_of_ble_eq_true rfl) (Nat.le_of_ble_eq_true rfl) rfl (Nat.le_of_ble_eq_true rfl) (fun r M' h => c_X3_times N (M.2 c1 1) (M.2 c3 2)  _  r M' h) hf (fun v26 M27 hf => ?_)
          exact a_lret (pc := 115) C dX3_aboveOf_115 (so_1 hf) (so_2 hf)
        · rw [if_neg hs25] at hf
          refine a_tabOut (pc := 1) 116 C dX3_aboveOf_1 (by have nhs1 := ne_toInt hs1 (k := 0) (by decide); have nhs11 := ne_toInt hs11 (k := 1) (by decide); have nhs21 := ne_toInt hs21 (k := 2) (by decide); have nhs25 := ne_toInt hs25 (k := 3) (by decide); omega) (by decide) ?_
          refine a_aload_n (pc := 116) C dX3_aboveOf_116 0 rfl ?_
          refine a_aload_n (pc := 117) C dX3_aboveOf_117 1 rfl ?_
          refine a_getJ (pc := 118) C dX3_aboveOf_118 fl_X3_9 hc1 rfl ?_
          refine a_aload_n (pc := 121) C dX3_aboveOf_121 3 rfl ?_
          refine a_getJ (pc := 122) C dX3_aboveOf_122 fl_X3_9 hc3 rfl ?_
          refine a_callV_J (pc := 125) (d' := 1) C dX3_aboveOf_125 ml_X3_24 mc_X3_plus mv_X3_plus tx_33 rfl [.long (M.2 c1 1), .long (M.2 c3 1)] rfl (Nat.le_of_ble_eq_true rfl) (Nat.le_of_ble_eq_true rfl) rfl (Nat.le_of_ble_eq_true rfl) (fun r M' h => c_X3_plus N (M.2 c1 1) (M.2 c3 1)  _  r M' h) hf (fun v29 M30 hf => ?_)
          exact a_lret (pc := 128) C dX3_aboveOf_128 (so_1 hf) (so_2 hf)
theorem dX3_belowOf_0 : decode cX3_belowOf 0 = .ok (.iload_n 2, 1) := by decide +kernel
theorem dX3_belowOf_1 : decode cX3_belowOf 1 = .ok (.lookupswitch 53 #[(3, 27), (4, 40)], 27) := by decide +kernel
theorem dX3_belowOf_28 : decode cX3_belowOf 28 = .ok (.aload_n 0, 1) := by decide +kernel
theorem dX3_belowOf_29 : decode cX3_belowOf 29 = .ok (.aload_n 1, 1) := by decide +kernel
theorem dX3_belowOf_30 : decode cX3_belowOf 30 = .ok (.getfield 15, 3) := by decide +kernel
theorem dX3_belowOf_33 : decode cX3_belowOf 33 = .ok (.aload_n 3, 1) := by decide +kernel
theorem dX3_belowOf_34 : decode cX3_belowOf 34 = .ok (.getfield 9, 3) := by decide +kernel
theorem dX3_belowOf_37 : decode cX3_belowOf 37 = .ok (.invokevirtual 18, 3) := by decide +kernel
theorem dX3_belowOf_40 : decode cX3_belowOf 40 = .ok (.lreturn, 1) := by decide +kernel
theorem dX3_belowOf_41 : decode cX3_belowOf 41 = .ok (.aload_n 0, 1) := by decide +kernel
theorem dX3_belowOf_42 : decode cX3_belowOf 42 = .ok (.aload_n 1, 1) := by decide +kernel
theorem dX3_belowOf_43 : decode cX3_belowOf 43 = .ok (.getfield 15, 3) := by decide +kernel
theorem dX3_belowOf_46 : decode cX3_belowOf 46 = .ok (.aload_n 3, 1) := by decide +kernel
theorem dX3_belowOf_47 : decode cX3_belowOf 47 = .ok (.getfield 15, 3) := by decide +kernel
theorem dX3_belowOf_50 : decode cX3_belowOf 50 = .ok (.invokevirtual 24, 3) := by decide +kernel
theorem dX3_belowOf_53 : decode cX3_belowOf 53 = .ok (.lreturn, 1) := by decide +kernel
theorem dX3_belowOf_54 : decode cX3_belowOf 54 = .ok (.aload_n 0, 1) := by decide +kernel
theorem dX3_belowOf_55 : decode cX3_belowOf 55 = .ok (.aload_n 1, 1) := by decide +kernel
theorem dX3_belowOf_56 : decode cX3_belowOf 56 = .ok (.getfield 15, 3) := by decide +kernel
theorem dX3_belowOf_59 : decode cX3_belowOf 59 = .ok (.aload_n 3, 1) := by decide +kernel
theorem dX3_belowOf_60 : decode cX3_belowOf 60 = .ok (.getfield 15, 3) := by decide +kernel
theorem dX3_belowOf_63 : decode cX3_belowOf 63 = .ok (.invokevirtual 18, 3) := by decide +kernel
theorem dX3_belowOf_66 : decode cX3_belowOf 66 = .ok (.lreturn, 1) := by decide +kernel
def f_X3_belowOf (N : Nat) (c1 : Nat) (x2 : Int32) (c3 : Nat) (M : Mem) : Option (Int64 × Mem) := if x2 = 3 then (bd (f_X3_times N (M.2 c1 2) (M.2 c3 1) M) (fun w4 => some (w4.1, w4.2))) else if x2 = 4 then (bd (f_X3_plus N (M.2 c1 2) (M.2 c3 2) M) (fun w8 => some (w8.1, w8.2))) else (bd (f_X3_times N (M.2 c1 2) (M.2 c3 2) M) (fun w11 => some (w11.1, w11.2)))
set_option maxRecDepth 100000 in
set_option maxHeartbeats 4000000 in
theorem c_X3_belowOf {l : Launch} {D : va_G} {ac : Nat → ClassId} {A : Nat → Prop} {ad : Nat → Nat} {rest : va_W} (N : Nat) (c1 : Nat) (x2 : Int32) (c3 : Nat) (hc1 : HoldAt tabX c1) (hc3 : HoldAt tabX c3) (M : Mem) (r0 : Int64) (M0 : Mem) (hf : f_X3_belowOf N c1 x2 c3 M = some (r0, M0)) : CtJ l D ac A tabX ad rest yX3_belowOf cX3_belowOf 4  2 [.ref (ad 33), .ref (ad c1), .int x2, .ref (ad c3)] M r0 M0 := by
  refine ct_ofJ (own := RX3) (by decide +kernel) rfl (Nat.le_of_ble_eq_true rfl) ?_
  intro p e s m args below meth c C
  unfold f_X3_belowOf at hf
  refine a_L (L' := [(0, .ref (ad 33)), (1, .ref (ad c1)), (2, .int x2), (3, .ref (ad c3))]) rfl ?_
  refine a_iload_n (pc := 0) C dX3_belowOf_0 2 rfl ?_
  by_cases hs1 : x2 = 3
  · rw [if_pos hs1] at hf
    refine a_lookup (pc := 1) (off := 27) 28 C dX3_belowOf_1 (by decide) (by rw [hs1]; decide) (by decide) ?_
    refine a_aload_n (pc := 28) C dX3_belowOf_28 0 rfl ?_
    refine a_aload_n (pc := 29) C dX3_belowOf_29 1 rfl ?_
    refine a_getJ (pc := 30) C dX3_belowOf_30 fl_X3_15 hc1 rfl ?_
    refine a_aload_n (pc := 33) C dX3_belowOf_33 3 rfl ?_
    refine a_getJ (pc := 34) C dX3_belowOf_34 fl_X3_9 hc3 rfl ?_
    refine a_callV_J (pc := 37) (d' := 1) C dX3_belowOf_37 ml_X3_18 mc_X3_times mv_X3_times tx_33 rfl [.long (M.2 c1 2), .long (M.2 c3 1)] rfl (Nat.le_of_ble_eq_true rfl) (Nat.le_of_ble_eq_true rfl) rfl (Nat.le_of_ble_eq_true rfl) (fun r M' h => c_X3_times N (M.2 c1 2) (M.2 c3 1)  _  r M' h) hf (fun v2 M3 hf => ?_)
    exact a_lret (pc := 40) C dX3_belowOf_40 (so_1 hf) (so_2 hf)
  · rw [if_neg hs1] at hf
    by_cases hs5 : x2 = 4
    · rw [if_pos hs5] at hf
      refine a_lookup (pc := 1) (off := 40) 41 C dX3_belowOf_1 (by decide) (by rw [hs5]; decide) (by decide) ?_
      refine a_aload_n (pc := 41) C dX3_belowOf_41 0 rfl ?_
      refine a_aload_n (pc := 42) C dX3_belowOf_42 1 rfl ?_
      refine a_getJ (pc := 43) C dX3_belowOf_43 fl_X3_15 hc1 rfl ?_
      refine a_aload_n (pc := 46) C dX3_belowOf_46 3 rfl ?_
      refine a_getJ (pc := 47) C dX3_belowOf_47 fl_X3_15 hc3 rfl ?_
      refine a_callV_J (pc := 50) (d' := 1) C dX3_belowOf_50 ml_X3_24 mc_X3_plus mv_X3_plus tx_33 rfl [.long (M.2 c1 2), .long (M.2 c3 2)] rfl (Nat.le_of_ble_eq_true rfl) (Nat.le_of_ble_eq_true rfl) rfl (Nat.le_of_ble_eq_true rfl) (fun r M' h => c_X3_plus N (M.2 c1 2) (M.2 c3 2)  _  r M' h) hf (fun v6 M7 hf => ?_)
      exact a_lret (pc := 53) C dX3_belowOf_53 (so_1 hf) (so_2 hf)
    · rw [if_neg hs5] at hf
      refine a_lookup (pc := 1) (off := 53) 54 C dX3_belowOf_1 (by decide) (by have nhs1 := ne_toInt hs1 (k := 3) (by decide); have nhs5 := ne_toInt hs5 (k := 4) (by decide); simp [Op.lookupswitch.offset, List.find?, nhs1, Ne.symm nhs1, nhs5, Ne.symm nhs5]) (by decide) ?_
      refine a_aload_n (pc := 54) C dX3_belowOf_54 0 rfl ?_
      refine a_aload_n (pc := 55) C dX3_belowOf_55 1 rfl ?_
      refine a_getJ (pc := 56) C dX3_belowOf_56 fl_X3_15 hc1 rfl ?_
      refine a_aload_n (pc := 59) C dX3_belowOf_59 3 rfl ?_
      refine a_getJ (pc := 60) C dX3_belowOf_60 fl_X3_15 hc3 rfl ?_
      refine a_callV_J (pc := 63) (d' := 1) C dX3_belowOf_63 ml_X3_18 mc_X3_times mv_X3_times tx_33 rfl [.long (M.2 c1 2), .long (M.2 c3 2)] rfl (Nat.le_of_ble_eq_true rfl) (Nat.le_of_ble_eq_true rfl) rfl (Nat.le_of_ble_eq_true rfl) (fun r M' h => c_X3_times N (M.2 c1 2) (M.2 c3 2)  _  r M' h) hf (fun v9 M10 hf => ?_)
      exact a_lret (pc := 66) C dX3_belowOf_66 (so_1 hf) (so_2 hf)
theorem dX4_leastOf_0 : decode cX4_leastOf 0 = .ok (.iload_n 0, 1) := by decide +kernel
theorem dX4_leastOf_1 : decode cX4_leastOf 1 = .ok (.iload_n 0, 1) := by decide +kernel
theorem dX4_leastOf_2 : decode cX4_leastOf 2 = .ok (.ineg, 1) := by decide +kernel
theorem dX4_leastOf_3 : decode cX4_leastOf 3 = .ok (.iand, 1) := by decide +kernel
theorem dX4_leastOf_4 : decode cX4_leastOf 4 = .ok (.iconst 1, 1) := by decide +kernel
theorem dX4_leastOf_5 : decode cX4_leastOf 5 = .ok (.isub, 1) := by decide +kernel
theorem dX4_leastOf_6 : decode cX4_leastOf 6 = .ok (.invokestatic 61, 3) := by decide +kernel
theorem dX4_leastOf_9 : decode cX4_leastOf 9 = .ok (.ireturn, 1) := by decide +kernel
def f_X4_leastOf (N : Nat) (x0 : Int32) (M : Mem) : Option (Int32) := bd (f_J6_bitCount_0f7a4 N ((x0 &&& (-x0)) - (1 : Int32)) M) (fun v1 => some v1)
set_option maxRecDepth 100000 in
set_option maxHeartbeats 4000000 in
theorem c_X4_leastOf {l : Launch} {D : va_G} {ac : Nat → ClassId} {A : Nat → Prop} {ad : Nat → Nat} {rest : va_W} (N : Nat) (x0 : Int32)  (M : Mem) (r0 : Int32) (hf : f_X4_leastOf N x0 M = some r0) : CtI l D ac A tabX ad rest yX4_leastOf cX4_leastOf 1 .int 2 [.int x0] M r0 M := by
  refine ct_ofI (own := RX4) (by decide +kernel) rfl (Nat.le_of_ble_eq_true rfl) ?_
  intro p e s m args below meth c C
  unfold f_X4_leastOf at hf
  refine a_L (L' := [(0, .int x0)]) rfl ?_
  refine a_iload_n (pc := 0) C dX4_leastOf_0 0 rfl ?_
  refine a_iload_n (pc := 1) C dX4_leastOf_1 0 rfl ?_
  refine a_ineg (pc := 2) C dX4_leastOf_2 ?_
  refine a_iand (pc := 3) C dX4_leastOf_3 ?_
  refine a_iconst (pc := 4) (v := 1) C dX4_leastOf_4 (by decide) ?_
  refine a_isub (pc := 5) C dX4_leastOf_5 ?_
  refine a_callS_Ir (pc := 6) (d' := 1) C dX4_leastOf_6 ml_X4_61 mc_J6_bitCount_0f7a4 ms_J6_bitCount_0f7a4 [.int ((x0 &&& (-x0)) - (1 : Int32))] rfl (Nat.le_of_ble_eq_true rfl) (Nat.le_of_ble_eq_true rfl) rfl (Nat.le_of_ble_eq_true rfl) (fun r h => c_J6_bitCount_0f7a4 N ((x0 &&& (-x0)) - (1 : Int32))  _  r h) hf (fun v1 hf => ?_)
  exact a_iret (pc := 9) C dX4_leastOf_9 (Option.some.inj hf) rfl
theorem dX4_along_0 : decode cX4_along 0 = .ok (.aload_n 0, 1) := by decide +kernel
theorem dX4_along_1 : decode cX4_along 1 = .ok (.getfield 21, 3) := by decide +kernel
theorem dX4_along_4 : decode cX4_along 4 = .ok (.iload_n 1, 1) := by decide +kernel
theorem dX4_along_5 : decode cX4_along 5 = .ok (.iaload, 1) := by decide +kernel
theorem dX4_along_6 : decode cX4_along 6 = .ok (.iconst 1, 1) := by decide +kernel
theorem dX4_along_7 : decode cX4_along 7 = .ok (.if_icmp .ne 5, 3) := by decide +kernel
theorem dX4_along_10 : decode cX4_along 10 = .ok (.iconst 1, 1) := by decide +kernel
theorem dX4_along_11 : decode cX4_along 11 = .ok (.ireturn, 1) := by decide +kernel
theorem dX4_along_12 : decode cX4_along 12 = .ok (.aload_n 0, 1) := by decide +kernel
theorem dX4_along_13 : decode cX4_along 13 = .ok (.getfield 24, 3) := by decide +kernel
theorem dX4_along_16 : decode cX4_along 16 = .ok (.iload_n 1, 1) := by decide +kernel
theorem dX4_along_17 : decode cX4_along 17 = .ok (.iaload, 1) := by decide +kernel
theorem dX4_along_18 : decode cX4_along 18 = .ok (.iload_n 2, 1) := by decide +kernel
theorem dX4_along_19 : decode cX4_along 19 = .ok (.ixor, 1) := by decide +kernel
theorem dX4_along_20 : decode cX4_along 20 = .ok (.aload_n 0, 1) := by decide +kernel
theorem dX4_along_21 : decode cX4_along 21 = .ok (.getfield 11, 3) := by decide +kernel
theorem dX4_along_24 : decode cX4_along 24 = .ok (.iload_n 1, 1) := by decide +kernel
theorem dX4_along_25 : decode cX4_along 25 = .ok (.iaload, 1) := by decide +kernel
theorem dX4_along_26 : decode cX4_along 26 = .ok (.iand, 1) := by decide +kernel
theorem dX4_along_27 : decode cX4_along 27 = .ok (.invokestatic 61, 3) := by decide +kernel
theorem dX4_along_30 : decode cX4_along 30 = .ok (.istore_n 3, 1) := by decide +kernel
theorem dX4_along_31 : decode cX4_along 31 = .ok (.iload_n 3, 1) := by decide +kernel
theorem dX4_along_32 : decode cX4_along 32 = .ok (.aload_n 0, 1) := by decide +kernel
theorem dX4_along_33 : decode cX4_along 33 = .ok (.getfield 21, 3) := by decide +kernel
theorem dX4_along_36 : decode cX4_along 36 = .ok (.iload_n 1, 1) := by decide +kernel
theorem dX4_along_37 : decode cX4_along 37 = .ok (.iaload, 1) := by decide +kernel
theorem dX4_along_38 : decode cX4_along 38 = .ok (.iload_n 3, 1) := by decide +kernel
theorem dX4_along_39 : decode cX4_along 39 = .ok (.isub, 1) := by decide +kernel
theorem dX4_along_40 : decode cX4_along 40 = .ok (.invokestatic 84, 3) := by decide +kernel
theorem dX4_along_43 : decode cX4_along 43 = .ok (.ireturn, 1) := by decide +kernel
def f_X4_along (N : Nat) (x1 : Int32) (x2 : Int32) (M : Mem) : Option (Int32) := ck (inb x1 64) (if (M.1 23 x1.toNatClampNeg) = (1 : Int32) then (some (1 : Int32)) else (ck (inb x1 64) (ck (inb x1 64) (bd (f_J6_bitCount_0f7a4 N (((M.1 24 x1.toNatClampNeg) ^^^ x2) &&& (M.1 20 x1.toNatClampNeg)) M) (fun v1 => ck (inb x1 64) (bd (f_J9_min_7cf53 N v1 ((M.1 23 x1.toNatClampNeg) - v1) M) (fun v3 => some v3)))))))
set_option maxRecDepth 100000 in
set_option maxHeartbeats 4000000 in
theorem c_X4_along {l : Launch} {D : va_G} {ac : Nat → ClassId} {A : Nat → Prop} {ad : Nat → Nat} {rest : va_W} (N : Nat) (x1 : Int32) (x2 : Int32)  (M : Mem) (r0 : Int32) (hf : f_X4_along N x1 x2 M = some r0) : CtI l D ac A tabX ad rest yX4_along cX4_along 4 .int 2 [.ref (ad 19), .int x1, .int x2] M r0 M := by
  refine ct_ofI (own := RX4) (by decide +kernel) rfl (Nat.le_of_ble_eq_true rfl) ?_
  intro p e s m args below meth c C
  unfold f_X4_along at hf
  refine a_L (L' := [(0, .ref (ad 19)), (1, .int x1), (2, .int x2)]) rfl ?_
  refine a_aload_n (pc := 0) C dX4_along_0 0 rfl ?_
  refine a_getR (pc := 1) C dX4_along_1 fl_X4_21 tx_19 rfl ?_
  refine a_iload_n (pc := 4) C dX4_along_4 1 rfl ?_
  refine a_iald (pc := 5) C dX4_along_5 tx_23 hf (fun hf => ?_)
  refine a_iconst (pc := 6) (v := 1) C dX4_along_6 (by decide) ?_
  refine a_icmp_ne (pc := 7) 12 C dX4_along_7 (by decide) hf (fun hf => ?_) (fun hf => ?_)
  · refine a_aload_n (pc := 12) C dX4_along_12 0 rfl ?_
    refine a_getR (pc := 13) C dX4_along_13 fl_X4_24 tx_19 rfl ?_
    refine a_iload_n (pc := 16) C dX4_along_16 1 rfl ?_
    refine a_iald (pc := 17) C dX4_along_17 tx_24 hf (fun hf => ?_)
    refine a_iload_n (pc := 18) C dX4_along_18 2 rfl ?_
    refine a_ixor (pc := 19) C dX4_along_19 ?_
    refine a_aload_n (pc := 20) C dX4_along_20 0 rfl ?_
    refine a_getR (pc := 21) C dX4_along_21 fl_X4_11 tx_19 rfl ?_
    refine a_iload_n (pc := 24) C dX4_along_24 1 rfl ?_
    refine a_iald (pc := 25) C dX4_along_25 tx_20 hf (fun hf => ?_)
    refine a_iand (pc := 26) C dX4_along_26 ?_
    refine a_callS_Ir (pc := 27) (d' := 1) C dX4_along_27 ml_X4_61 mc_J6_bitCount_0f7a4 ms_J6_bitCount_0f7a4 [.int (((M.1 24 x1.toNatClampNeg) ^^^ x2) &&& (M.1 20 x1.toNatClampNeg))] rfl (Nat.le_of_ble_eq_true rfl) (Nat.le_of_ble_eq_true rfl) rfl (Nat.le_of_ble_eq_true rfl) (fun r h => c_J6_bitCount_0f7a4 N (((M.1 24 x1.toNatClampNeg) ^^^ x2) &&& (M.1 20 x1.toNatClampNeg))  _  r h) hf (fun v1 hf => ?_)
    refine a_istore_n (pc := 30) [(3, .int v1), (0, .ref (ad 19)), (1, .int x1), (2, .int x2)] C dX4_along_30 (by decide) rfl ?_
    refine a_iload_n (pc := 31) C dX4_along_31 0 rfl ?_
    refine a_aload_n (pc := 32) C dX4_along_32 1 rfl ?_
    refine a_getR (pc := 33) C dX4_along_33 fl_X4_21 tx_19 rfl ?_
    refine a_iload_n (pc := 36) C dX4_along_36 2 rfl ?_
    refine a_iald (pc := 37) C dX4_along_37 tx_23 hf (fun hf => ?_)
    refine a_iload_n (pc := 38) C dX4_along_38 0 rfl ?_
    refine a_isub (pc := 39) C dX4_along_39 ?_
    refine a_callS_Ir (pc := 40) (d' := 1) C dX4_along_40 ml_X4_84 mc_J9_min_7cf53 ms_J9_min_7cf53 [.int v1, .int ((M.1 23 x1.toNatClampNeg) - v1)] rfl (Nat.le_of_ble_eq_true rfl) (Nat.le_of_ble_eq_true rfl) rfl (Nat.le_of_ble_eq_true rfl) (fun r h => c_J9_min_7cf53 N v1 ((M.1 23 x1.toNatClampNeg) - v1)  _  r h) hf (fun v3 hf => ?_)
    exact a_iret (pc := 43) C dX4_along_43 (Option.some.inj hf) rfl
  · refine a_iconst (pc := 10) (v := 1) C dX4_along_10 (by decide) ?_
    exact a_iret (pc := 11) C dX4_along_11 (Option.some.inj hf) rfl
theorem dX5_begin_0 : decode cX5_begin 0 = .ok (.aload_n 0, 1) := by decide +kernel
theorem dX5_begin_1 : decode cX5_begin 1 = .ok (.iload_n 1, 1) := by decide +kernel
theorem dX5_begin_2 : decode cX5_begin 2 = .ok (.putfield 9, 3) := by decide +kernel
theorem dX5_begin_5 : decode cX5_begin 5 = .ok (.aload_n 0, 1) := by decide +kernel
theorem dX5_begin_6 : decode cX5_begin 6 = .ok (.iload_n 2, 1) := by decide +kernel
theorem dX5_begin_7 : decode cX5_begin 7 = .ok (.putfield 19, 3) := by decide +kernel
theorem dX5_begin_10 : decode cX5_begin 10 = .ok (.aload_n 0, 1) := by decide +kernel
theorem dX5_begin_11 : decode cX5_begin 11 = .ok (.getfield 15, 3) := by decide +kernel
theorem dX5_begin_14 : decode cX5_begin 14 = .ok (.lconst 0, 1) := by decide +kernel
theorem dX5_begin_15 : decode cX5_begin 15 = .ok (.invokestatic 22, 3) := by decide +kernel
theorem dX5_begin_18 : decode cX5_begin 18 = .ok (.return_, 1) := by decide +kernel
def f_X5_begin (N : Nat) (c0 : Nat) (x1 : Int32) (x2 : Int32) (M : Mem) : Option (Mem) := nm (setI M c0 0 x1) (fun M1 => nm (setI M1 c0 1 x2) (fun M2 => bd (f_J7_fill_d0a16 N (c0 + 1) 40 (0 : Int64) M2) (fun M4 => some M4)))
set_option maxRecDepth 100000 in
set_option maxHeartbeats 4000000 in
theorem c_X5_begin {l : Launch} {D : va_G} {ac : Nat → ClassId} {A : Nat → Prop} {ad : Nat → Nat} {rest : va_W} (N : Nat) (c0 : Nat) (x1 : Int32) (x2 : Int32) (hc0 : SheetAt tabX c0) (M : Mem)  (M0 : Mem) (hf : f_X5_begin N c0 x1 x2 M = some M0) : CtV l D ac A tabX ad rest yX5_begin cX5_begin 3  2 [.ref (ad c0), .int x1, .int x2] M  M0 := by
  refine ct_ofV (own := RX5) (by decide +kernel) rfl (Nat.le_of_ble_eq_true rfl) ?_
  intro p e s m args below meth c C
  unfold f_X5_begin at hf
  refine a_L (L' := [(0, .ref (ad c0)), (1, .int x1), (2, .int x2)]) rfl ?_
  refine a_aload_n (pc := 0) C dX5_begin_0 0 rfl ?_
  refine a_iload_n (pc := 1) C dX5_begin_1 1 rfl ?_
  refine a_putI (pc := 2) C dX5_begin_2 fl_X5_9 hc0.1 rfl hf (fun M1 hf => ?_)
  refine a_aload_n (pc := 5) C dX5_begin_5 0 rfl ?_
  refine a_iload_n (pc := 6) C dX5_begin_6 2 rfl ?_
  refine a_putI (pc := 7) C dX5_begin_7 fl_X5_19 hc0.1 rfl hf (fun M2 hf => ?_)
  refine a_aload_n (pc := 10) C dX5_begin_10 0 rfl ?_
  refine a_getR (pc := 11) C dX5_begin_11 fl_X5_15 hc0.1 rfl ?_
  refine a_lconst (pc := 14) (v := 0) C dX5_begin_14 (by decide) ?_
  refine a_callS_V (pc := 15) (d' := 1) C dX5_begin_15 ml_X5_22 mc_J7_fill_d0a16 ms_J7_fill_d0a16 [.ref (ad (c0 + 1)), .long (0 : Int64)] rfl (Nat.le_of_ble_eq_true rfl) (Nat.le_of_ble_eq_true rfl) rfl (Nat.le_of_ble_eq_true rfl) (fun M' h => c_J7_fill_d0a16 N (c0 + 1) 40 (0 : Int64) hc0.2 _  M' h) hf (fun M4 hf => ?_)
  exact a_vret (pc := 18) C dX5_begin_18 (Option.some.inj hf)
theorem dX6_readToken_0 : decode cX6_readToken 0 = .ok (.aload_n 0, 1) := by decide +kernel
theorem dX6_readToken_1 : decode cX6_readToken 1 = .ok (.aload_n 0, 1) := by decide +kernel
theorem dX6_readToken_2 : decode cX6_readToken 2 = .ok (.aload_n 0, 1) := by decide +kernel
theorem dX6_readToken_3 : decode cX6_readToken 3 = .ok (.getfield 19, 3) := by decide +kernel
theorem dX6_readToken_6 : decode cX6_readToken 6 = .ok (.bipush 32, 2) := by decide +kernel
theorem dX6_readToken_8 : decode cX6_readToken 8 = .ok (.bipush 32, 2) := by decide +kernel
theorem dX6_readToken_10 : decode cX6_readToken 10 = .ok (.invokevirtual 107, 3) := by decide +kernel
theorem dX6_readToken_13 : decode cX6_readToken 13 = .ok (.putfield 29, 3) := by decide +kernel
theorem dX6_readToken_16 : decode cX6_readToken 16 = .ok (.aload_n 0, 1) := by decide +kernel
theorem dX6_readToken_17 : decode cX6_readToken 17 = .ok (.aload_n 0, 1) := by decide +kernel
theorem dX6_readToken_18 : decode cX6_readToken 18 = .ok (.getfield 29, 3) := by decide +kernel
theorem dX6_readToken_21 : decode cX6_readToken 21 = .ok (.bipush 97, 2) := by decide +kernel
theorem dX6_readToken_23 : decode cX6_readToken 23 = .ok (.bipush 122, 2) := by decide +kernel
theorem dX6_readToken_25 : decode cX6_readToken 25 = .ok (.invokevirtual 107, 3) := by decide +kernel
theorem dX6_readToken_28 : decode cX6_readToken 28 = .ok (.istore_n 1, 1) := by decide +kernel
theorem dX6_readToken_29 : decode cX6_readToken 29 = .ok (.aload_n 0, 1) := by decide +kernel
theorem dX6_readToken_30 : decode cX6_readToken 30 = .ok (.aload_n 0, 1) := by decide +kernel
theorem dX6_readToken_31 : decode cX6_readToken 31 = .ok (.getfield 29, 3) := by decide +kernel
theorem dX6_readToken_34 : decode cX6_readToken 34 = .ok (.bipush 48, 2) := by decide +kernel
theorem dX6_readToken_36 : decode cX6_readToken 36 = .ok (.bipush 57, 2) := by decide +kernel
theorem dX6_readToken_38 : decode cX6_readToken 38 = .ok (.invokevirtual 107, 3) := by decide +kernel
theorem dX6_readToken_41 : decode cX6_readToken 41 = .ok (.istore_n 2, 1) := by decide +kernel
theorem dX6_readToken_42 : decode cX6_readToken 42 = .ok (.aload_n 0, 1) := by decide +kernel
theorem dX6_readToken_43 : decode cX6_readToken 43 = .ok (.getfield 29, 3) := by decide +kernel
theorem dX6_readToken_46 : decode cX6_readToken 46 = .ok (.aload_n 0, 1) := by decide +kernel
theorem dX6_readToken_47 : decode cX6_readToken 47 = .ok (.getfield 15, 3) := by decide +kernel
theorem dX6_readToken_50 : decode cX6_readToken 50 = .ok (.if_icmp .lt 19, 3) := by decide +kernel
theorem dX6_readToken_53 : decode cX6_readToken 53 = .ok (.aload_n 0, 1) := by decide +kernel
theorem dX6_readToken_54 : decode cX6_readToken 54 = .ok (.iconst 0, 1) := by decide +kernel
theorem dX6_readToken_55 : decode cX6_readToken 55 = .ok (.putfield 32, 3) := by decide +kernel
theorem dX6_readToken_58 : decode cX6_readToken 58 = .ok (.aload_n 0, 1) := by decide +kernel
theorem dX6_readToken_59 : decode cX6_readToken 59 = .ok (.aload_n 0, 1) := by decide +kernel
theorem dX6_readToken_60 : decode cX6_readToken 60 = .ok (.getfield 29, 3) := by decide +kernel
theorem dX6_readToken_63 : decode cX6_readToken 63 = .ok (.putfield 19, 3) := by decide +kernel
theorem dX6_readToken_66 : decode cX6_readToken 66 = .ok (.goto 91, 3) := by decide +kernel
theorem dX6_readToken_69 : decode cX6_readToken 69 = .ok (.iload_n 1, 1) := by decide +kernel
theorem dX6_readToken_70 : decode cX6_readToken 70 = .ok (.aload_n 0, 1) := by decide +kernel
theorem dX6_readToken_71 : decode cX6_readToken 71 = .ok (.getfield 29, 3) := by decide +kernel
theorem dX6_readToken_74 : decode cX6_readToken 74 = .ok (.if_icmp .le 16, 3) := by decide +kernel
theorem dX6_readToken_77 : decode cX6_readToken 77 = .ok (.aload_n 0, 1) := by decide +kernel
theorem dX6_readToken_78 : decode cX6_readToken 78 = .ok (.iconst 1, 1) := by decide +kernel
theorem dX6_readToken_79 : decode cX6_readToken 79 = .ok (.putfield 32, 3) := by decide +kernel
theorem dX6_readToken_82 : decode cX6_readToken 82 = .ok (.aload_n 0, 1) := by decide +kernel
theorem dX6_readToken_83 : decode cX6_readToken 83 = .ok (.iload_n 1, 1) := by decide +kernel
theorem dX6_readToken_84 : decode cX6_readToken 84 = .ok (.putfield 19, 3) := by decide +kernel
theorem dX6_readToken_87 : decode cX6_readToken 87 = .ok (.goto 70, 3) := by decide +kernel
theorem dX6_readToken_90 : decode cX6_readToken 90 = .ok (.iload_n 2, 1) := by decide +kernel
theorem dX6_readToken_91 : decode cX6_readToken 91 = .ok (.aload_n 0, 1) := by decide +kernel
theorem dX6_readToken_92 : decode cX6_readToken 92 = .ok (.getfield 29, 3) := by decide +kernel
theorem dX6_readToken_95 : decode cX6_readToken 95 = .ok (.if_icmp .le 29, 3) := by decide +kernel
theorem dX6_readToken_98 : decode cX6_readToken 98 = .ok (.aload_n 0, 1) := by decide +kernel
theorem dX6_readToken_99 : decode cX6_readToken 99 = .ok (.iconst 2, 1) := by decide +kernel
theorem dX6_readToken_100 : decode cX6_readToken 100 = .ok (.putfield 32, 3) := by decide +kernel
theorem dX6_readToken_103 : decode cX6_readToken 103 = .ok (.aload_n 0, 1) := by decide +kernel
theorem dX6_readToken_104 : decode cX6_readToken 104 = .ok (.iload_n 2, 1) := by decide +kernel
theorem dX6_readToken_105 : decode cX6_readToken 105 = .ok (.putfield 19, 3) := by decide +kernel
theorem dX6_readToken_108 : decode cX6_readToken 108 = .ok (.aload_n 0, 1) := by decide +kernel
theorem dX6_readToken_109 : decode cX6_readToken 109 = .ok (.aload_n 0, 1) := by decide +kernel
theorem dX6_readToken_110 : decode cX6_readToken 110 = .ok (.aload_n 0, 1) := by decide +kernel
theorem dX6_readToken_111 : decode cX6_readToken 111 = .ok (.getfield 29, 3) := by decide +kernel
theorem dX6_readToken_114 : decode cX6_readToken 114 = .ok (.iload_n 2, 1) := by decide +kernel
theorem dX6_readToken_115 : decode cX6_readToken 115 = .ok (.invokevirtual 111, 3) := by decide +kernel
theorem dX6_readToken_118 : decode cX6_readToken 118 = .ok (.putfield 94, 3) := by decide +kernel
theorem dX6_readToken_121 : decode cX6_readToken 121 = .ok (.goto 36, 3) := by decide +kernel
theorem dX6_readToken_124 : decode cX6_readToken 124 = .ok (.aload_n 0, 1) := by decide +kernel
theorem dX6_readToken_125 : decode cX6_readToken 125 = .ok (.aload_n 0, 1) := by decide +kernel
theorem dX6_readToken_126 : decode cX6_readToken 126 = .ok (.getfield 9, 3) := by decide +kernel
theorem dX6_readToken_129 : decode cX6_readToken 129 = .ok (.aload_n 0, 1) := by decide +kernel
theorem dX6_readToken_130 : decode cX6_readToken 130 = .ok (.getfield 29, 3) := by decide +kernel
theorem dX6_readToken_133 : decode cX6_readToken 133 = .ok (.iaload, 1) := by decide +kernel
theorem dX6_readToken_134 : decode cX6_readToken 134 = .ok (.bipush 59, 2) := by decide +kernel
theorem dX6_readToken_136 : decode cX6_readToken 136 = .ok (.if_icmp .ne 7, 3) := by decide +kernel
theorem dX6_readToken_139 : decode cX6_readToken 139 = .ok (.iconst 3, 1) := by decide +kernel
theorem dX6_readToken_140 : decode cX6_readToken 140 = .ok (.goto 4, 3) := by decide +kernel
theorem dX6_readToken_143 : decode cX6_readToken 143 = .ok (.iconst 4, 1) := by decide +kernel
theorem dX6_readToken_144 : decode cX6_readToken 144 = .ok (.putfield 32, 3) := by decide +kernel
theorem dX6_readToken_147 : decode cX6_readToken 147 = .ok (.aload_n 0, 1) := by decide +kernel
theorem dX6_readToken_148 : decode cX6_readToken 148 = .ok (.aload_n 0, 1) := by decide +kernel
theorem dX6_readToken_149 : decode cX6_readToken 149 = .ok (.getfield 29, 3) := by decide +kernel
theorem dX6_readToken_152 : decode cX6_readToken 152 = .ok (.iconst 1, 1) := by decide +kernel
theorem dX6_readToken_153 : decode cX6_readToken 153 = .ok (.iadd, 1) := by decide +kernel
theorem dX6_readToken_154 : decode cX6_readToken 154 = .ok (.putfield 19, 3) := by decide +kernel
theorem dX6_readToken_157 : decode cX6_readToken 157 = .ok (.return_, 1) := by decide +kernel
def f_X6_readToken (N : Nat)  (M : Mem) : Option (Mem) := bd (f_X6_passOver N (M.1 31 4) (32 : Int32) (32 : Int32) M) (fun v1 => nm (setI M 31 3 v1) (fun M3 => bd (f_X6_passOver N (M3.1 31 3) (97 : Int32) (122 : Int32) M3) (fun v4 => bd (f_X6_passOver N (M3.1 31 3) (48 : Int32) (57 : Int32) M3) (fun v6 => if (M3.1 31 3) < (M3.1 31 0) then (if v4 ≤ (M3.1 31 3) then (if v6 ≤ (M3.1 31 3) then (ck (inb (M3.1 31 3) 120) (jn (fun (a144 : Int32) => nm (setI M3 31 2 a144) (fun M8 => nm (setI M8 31 4 ((M8.1 31 3) + (1 : Int32))) (fun M9 => some M9))) (fun (k144 : Int32 → Option (Mem)) => if (M3.1 32 (M3.1 31 3).toNatClampNeg) = (59 : Int32) then (k144 (3 : Int32)) else (k144 (4 : Int32))))) else (nm (setI M3 31 2 (2 : Int32)) (fun M10 => nm (setI M10 31 4 v6) (fun M11 => bd (f_X6_valueOf N (M11.1 31 3) v6 M11) (fun v12 => nm (setI M11 31 5 v12) (fun M14 => some M14)))))) else (nm (setI M3 31 2 (1 : Int32)) (fun M15 => nm (setI M15 31 4 v4) (fun M16 => some M16)))) else (nm (setI M3 31 2 (0 : Int32)) (fun M17 => nm (setI M17 31 4 (M17.1 31 3)) (fun M18 => some M18)))))))
set_option maxRecDepth 100000 in
set_option maxHeartbeats 4000000 in
theorem c_X6_readToken {l : Launch} {D : va_G} {ac : Nat → ClassId} {A : Nat → Prop} {ad : Nat → Nat} {rest : va_W} (N : Nat)   (M : Mem)  (M0 : Mem) (hf : f_X6_readToken N  M = some M0) : CtV l D ac A tabX ad rest yX6_readToken cX6_readToken 3  2 [.ref (ad 31)] M  M0 := by
  refine ct_ofV (own := RX6) (by decide +kernel) rfl (Nat.le_of_ble_eq_true rfl) ?_
  intro p e s m args below meth c C
  unfold f_X6_readToken at hf
  refine a_L (L' := [(0, .ref (ad 31))]) rfl ?_
  refine a_aload_n (pc := 0) C dX6_readToken_0 0 rfl ?_
  refine a_aload_n (pc := 1) C dX6_readToken_1 0 rfl ?_
  refine a_aload_n (pc := 2) C dX6_readToken_2 0 rfl ?_
  refine a_getI (pc := 3) C dX6_readToken_3 fl_X6_19 tx_31 rfl ?_
  refine a_bipush (pc := 6) (v := 32) C dX6_readToken_6 (by decide) ?_
  refine a_bipush (pc := 8) (v := 32) C dX6_readToken_8 (by decide) ?_
  refine a_callV_Ir (pc := 10) (d' := 1) C dX6_readToken_10 ml_X6_107 mc_X6_passOver mv_X6_passOver tx_31 rfl [.int (M.1 31 4), .int (32 : Int32), .int (32 : Int32)] rfl (Nat.le_of_ble_eq_true rfl) (Nat.le_of_ble_eq_true rfl) rfl (Nat.le_of_ble_eq_true rfl) (fun r h => c_X6_passOver N (M.1 31 4) (32 : Int32) (32 : Int32)  _  r h) hf (fun v1 hf => ?_)
  refine a_putI (pc := 13) C dX6_readToken_13 fl_X6_29 tx_31 rfl hf (fun M3 hf => ?_)
  refine a_aload_n (pc := 16) C dX6_readToken_16 0 rfl ?_
  refine a_aload_n (pc := 17) C dX6_readToken_17 0 rfl ?_
  refine a_getI (pc := 18) C dX6_readToken_18 fl_X6_29 tx_31 rfl ?_
  refine a_bipush (pc := 21) (v := 97) C dX6_readToken_21 (by decide) ?_
  refine a_bipush (pc := 23) (v := 122) C dX6_readToken_23 (by decide) ?_
  refine a_callV_Ir (pc := 25) (d' := 1) C dX6_readToken_25 ml_X6_107 mc_X6_passOver mv_X6_passOver tx_31 rfl [.int (M3.1 31 3), .int (97 : Int32), .int (122 : Int32)] rfl (Nat.le_of_ble_eq_true rfl) (Nat.le_of_ble_eq_true rfl) rfl (Nat.le_of_ble_eq_true rfl) (fun r h => c_X6_passOver N (M3.1 31 3) (97 : Int32) (122 : Int32)  _  r h) hf (fun v4 hf => ?_)
  refine a_istore_n (pc := 28) [(1, .int v4), (0, .ref (ad 31))] C dX6_readToken_28 (by decide) rfl ?_
  refine a_aload_n (pc := 29) C dX6_readToken_29 1 rfl ?_
  refine a_aload_n (pc := 30) C dX6_readToken_30 1 rfl ?_
  refine a_getI (pc := 31) C dX6_readToken_31 fl_X6_29 tx_31 rfl ?_
  refine a_bipush (pc := 34) (v := 48) C dX6_readToken_34 (by decide) ?_
  refine a_bipush (pc := 36) (v := 57) C dX6_readToken_36 (by decide) ?_
  refine a_callV_Ir (pc := 38) (d' := 1) C dX6_readToken_38 ml_X6_107 mc_X6_passOver mv_X6_passOver tx_31 rfl [.int (M3.1 31 3), .int (48 : Int32), .int (57 : Int32)] rfl (Nat.le_of_ble_eq_true rfl) (Nat.le_of_ble_eq_true rfl) rfl (Nat.le_of_ble_eq_true rfl) (fun r h => c_X6_passOver N (M3.1 31 3) (48 : Int32) (57 : Int32)  _  r h) hf (fun v6 hf => ?_)
  refine a_istore_n (pc := 41) [(2, .int v6), (1, .int v4), (0, .ref (ad 31))] C dX6_readToken_41 (by decide) rfl ?_
  refine a_aload_n (pc := 42) C dX6_readToken_42 2 rfl ?_
  refine a_getI (pc := 43) C dX6_readToken_43 fl_X6_29 tx_31 rfl ?_
  refine a_aload_n (pc := 46) C dX6_readToken_46 2 rfl ?_
  refine a_getI (pc := 47) C dX6_readToken_47 fl_X6_15 tx_31 rfl ?_
  refine a_icmp_lt (pc := 50) 69 C dX6_readToken_50 (by decide) hf (fun hf => ?_) (fun hf => ?_)
  · refine a_iload_n (pc := 69) C dX6_readToken_69 1 rfl ?_
    refine a_aload_n (pc := 70) C dX6_readToken_70 2 rfl ?_
    refine a_getI (pc := 71) C dX6_readToken_71 fl_X6_29 tx_31 rfl ?_
    refine a_icmp_le (pc := 74) 90 C dX6_readToken_74 (by decide) hf (fun hf => ?_) (fun hf => ?_)
    · refine a_iload_n (pc := 90) C dX6_readToken_90 0 rfl ?_
      refine a_aload_n (pc := 91) C dX6_readToken_91 2 rfl ?_
      refine a_getI (pc := 92) C dX6_readToken_92 fl_X6_29 tx_31 rfl ?_
      refine a_icmp_le (pc := 95) 124 C dX6_readToken_95 (by decide) hf (fun hf => ?_) (fun hf => ?_)
      · refine a_aload_n (pc := 124) C dX6_readToken_124 2 rfl ?_
        refine a_aload_n (pc := 125) C dX6_readToken_125 2 rfl ?_
        refine a_getR (pc := 126) C dX6_readToken_126 fl_X6_9 tx_31 rfl ?_
        refine a_aload_n (pc := 129) C dX6_readToken_129 2 rfl ?_
        refine a_getI (pc := 130) C dX6_readToken_130 fl_X6_29 tx_31 rfl ?_
        refine a_iald (pc := 133) C dX6_readToken_133 tx_32 hf (fun hf => ?_)
        refine a_bipush (pc := 134) (v := 59) C dX6_readToken_134 (by decide) ?_
        refine a_jn 144 (fun a144 : Int32 => [(0, .ref (ad 31))]) (fun a144 : Int32 => [.int a144, .ref (ad 31)]) (fun a144 : Int32 => M3) hf (fun a144 hf => ?_) (fun k144 hk144 hf => ?_)
        · refine a_putI (pc := 144) C dX6_readToken_144 fl_X6_32 tx_31 rfl hf (fun M8 hf => ?_)
          refine a_aload_n (pc := 147) C dX6_readToken_147 0 rfl ?_
          refine a_aload_n (pc := 148) C dX6_readToken_148 0 rfl ?_
          refine a_getI (pc := 149) C dX6_readToken_149 fl_X6_29 tx_31 rfl ?_
          refine a_iconst (pc := 152) (v := 1) C dX6_readToken_152 (by decide) ?_
          refine a_iadd (pc := 153) C dX6_readToken_153 ?_
          refine a_putI (pc := 154) C dX6_readToken_154 fl_X6_19 tx_31 rfl hf (fun M9 hf => ?_)
          exact a_vret (pc := 157) C dX6_readToken_157 (Option.some.inj hf)
        · refine a_icmp_ne (pc := 136) 143 C dX6_readToken_136 (by decide) hf (fun hf => ?_) (fun hf => ?_)
          · refine a_iconst (pc := 143) (v := 4) C dX6_readToken_143 (by decide) ?_
            exact a_sub [2] rfl (hk144 (4 : Int32) hf)
          · refine a_iconst (pc := 139) (v := 3) C dX6_readToken_139 (by decide) ?_
            refine a_goto (pc := 140) 144 C dX6_readToken_140 (by decide) ?_
            exact a_sub [2] rfl (hk144 (3 : Int32) hf)
      · refine a_aload_n (pc := 98) C dX6_readToken_98 2 rfl ?_
        refine a_iconst (pc := 99) (v := 2) C dX6_readToken_99 (by decide) ?_
        refine a_putI (pc := 100) C dX6_readToken_100 fl_X6_32 tx_31 rfl hf (fun M10 hf => ?_)
        refine a_aload_n (pc := 103) C dX6_readToken_103 2 rfl ?_
        refine a_iload_n (pc := 104) C dX6_readToken_104 0 rfl ?_
        refine a_putI (pc := 105) C dX6_readToken_105 fl_X6_19 tx_31 rfl hf (fun M11 hf => ?_)
        refine a_aload_n (pc := 108) C dX6_readToken_108 2 rfl ?_
        refine a_aload_n (pc := 109) C dX6_readToken_109 2 rfl ?_
        refine a_aload_n (pc := 110) C dX6_readToken_110 2 rfl ?_
        refine a_getI (pc := 111) C dX6_readToken_111 fl_X6_29 tx_31 rfl ?_
        refine a_iload_n (pc := 114) C dX6_readToken_114 0 rfl ?_
        refine a_callV_Ir (pc := 115) (d' := 1) C dX6_readToken_115 ml_X6_111 mc_X6_valueOf mv_X6_valueOf tx_31 rfl [.int (M11.1 31 3), .int v6] rfl (Nat.le_of_ble_eq_true rfl) (Nat.le_of_ble_eq_true rfl) rfl (Nat.le_of_ble_eq_true rfl) (fun r h => c_X6_valueOf N (M11.1 31 3) v6  _  r h) hf (fun v12 hf => ?_)
        refine a_putI (pc := 118) C dX6_readToken_118 fl_X6_94 tx_31 rfl hf (fun M14 hf => ?_)
        refine a_goto (pc := 121) 157 C dX6_readToken_121 (by decide) ?_
        exact a_vret (pc := 157) C dX6_readToken_157 (Option.some.inj hf)
    · refine a_aload_n (pc := 77) C dX6_readToken_77 2 rfl ?_
      refine a_iconst (pc := 78) (v := 1) C dX6_readToken_78 (by decide) ?_
      refine a_putI (pc := 79) C dX6_readToken_79 fl_X6_32 tx_31 rfl hf (fun M15 hf => ?_)
      refine a_aload_n (pc := 82) C dX6_readToken_82 2 rfl ?_
      refine a_iload_n (pc := 83) C dX6_readToken_83 1 rfl ?_
      refine a_putI (pc := 84) C dX6_readToken_84 fl_X6_19 tx_31 rfl hf (fun M16 hf => ?_)
      refine a_goto (pc := 87) 157 C dX6_readToken_87 (by decide) ?_
      exact a_vret (pc := 157) C dX6_readToken_157 (Option.some.inj hf)
  · refine a_aload_n (pc := 53) C dX6_readToken_53 2 rfl ?_
    refine a_iconst (pc := 54) (v := 0) C dX6_readToken_54 (by decide) ?_
    refine a_putI (pc := 55) C dX6_readToken_55 fl_X6_32 tx_31 rfl hf (fun M17 hf => ?_)
    refine a_aload_n (pc := 58) C dX6_readToken_58 2 rfl ?_
    refine a_aload_n (pc := 59) C dX6_readToken_59 2 rfl ?_
    refine a_getI (pc := 60) C dX6_readToken_60 fl_X6_29 tx_31 rfl ?_
    refine a_putI (pc := 63) C dX6_readToken_63 fl_X6_19 tx_31 rfl hf (fun M18 hf => ?_)
    refine a_goto (pc := 66) 157 C dX6_readToken_66 (by decide) ?_
    exact a_vret (pc := 157) C dX6_readToken_157 (Option.some.inj hf)
theorem dX7_points_0 : decode cX7_points 0 = .ok (.iload_n 1, 1) := by decide +kernel
theorem dX7_points_1 : decode cX7_points 1 = .ok (.iconst 1, 1) := by decide +kernel
theorem dX7_points_2 : decode cX7_points 2 = .ok (.bipush 6, 2) := by decide +kernel
theorem dX7_points_4 : decode cX7_points 4 = .ok (.invokestatic 64, 3) := by decide +kernel
theorem dX7_points_7 : decode cX7_points 7 = .ok (.ifCond .ne 6, 3) := by decide +kernel
theorem dX7_points_10 : decode cX7_points 10 = .ok (.bipush (-2), 2) := by decide +kernel
theorem dX7_points_12 : decode cX7_points 12 = .ok (.ireturn, 1) := by decide +kernel
theorem dX7_points_13 : decode cX7_points 13 = .ok (.iload_n 1, 1) := by decide +kernel
theorem dX7_points_14 : decode cX7_points 14 = .ok (.bipush 6, 2) := by decide +kernel
theorem dX7_points_16 : decode cX7_points 16 = .ok (.aload_n 0, 1) := by decide +kernel
theorem dX7_points_17 : decode cX7_points 17 = .ok (.getfield 12, 3) := by decide +kernel
theorem dX7_points_20 : decode cX7_points 20 = .ok (.getfield 68, 3) := by decide +kernel
theorem dX7_points_23 : decode cX7_points 23 = .ok (.isub, 1) := by decide +kernel
theorem dX7_points_24 : decode cX7_points 24 = .ok (.if_icmp .le 6, 3) := by decide +kernel
theorem dX7_points_27 : decode cX7_points 27 = .ok (.bipush (-4), 2) := by decide +kernel
theorem dX7_points_29 : decode cX7_points 29 = .ok (.ireturn, 1) := by decide +kernel
theorem dX7_points_30 : decode cX7_points 30 = .ok (.aload_n 0, 1) := by decide +kernel
theorem dX7_points_31 : decode cX7_points 31 = .ok (.getfield 12, 3) := by decide +kernel
theorem dX7_points_34 : decode cX7_points 34 = .ok (.iload_n 1, 1) := by decide +kernel
theorem dX7_points_35 : decode cX7_points 35 = .ok (.invokevirtual 72, 3) := by decide +kernel
theorem dX7_points_38 : decode cX7_points 38 = .ok (.aload_n 0, 1) := by decide +kernel
theorem dX7_points_39 : decode cX7_points 39 = .ok (.getfield 12, 3) := by decide +kernel
theorem dX7_points_42 : decode cX7_points 42 = .ok (.getfield 68, 3) := by decide +kernel
theorem dX7_points_45 : decode cX7_points 45 = .ok (.ireturn, 1) := by decide +kernel
def f_X7_points (N : Nat) (x1 : Int32) (M : Mem) : Option (Int32 × Mem) := bd (f_X7_within N x1 (1 : Int32) (6 : Int32) M) (fun v1 => if v1 = 0 then (some ((-2 : Int32), M)) else (if x1 ≤ ((6 : Int32) - (M.1 1 0)) then (bd (f_X1_addPoints N 1 x1 M) (fun M4 => some ((M4.1 1 0), M4))) else (some ((-4 : Int32), M))))
set_option maxRecDepth 100000 in
set_option maxHeartbeats 4000000 in
theorem c_X7_points {l : Launch} {D : va_G} {ac : Nat → ClassId} {A : Nat → Prop} {ad : Nat → Nat} {rest : va_W} (N : Nat) (x1 : Int32)  (M : Mem) (r0 : Int32) (M0 : Mem) (hf : f_X7_points N x1 M = some (r0, M0)) : CtI l D ac A tabX ad rest yX7_points cX7_points 2 .int 2 [.ref (ad 0), .int x1] M r0 M0 := by
  refine ct_ofI (own := RX7) (by decide +kernel) rfl (Nat.le_of_ble_eq_true rfl) ?_
  intro p e s m args below meth c C
  unfold f_X7_points at hf
  refine a_L (L' := [(0, .ref (ad 0)), (1, .int x1)]) rfl ?_
  refine a_iload_n (pc := 0) C dX7_points_0 1 rfl ?_
  refine a_iconst (pc := 1) (v := 1) C dX7_points_1 (by decide) ?_
  refine a_bipush (pc := 2) (v := 6) C dX7_points_2 (by decide) ?_
  refine a_callS_Ir (pc := 4) (d' := 1) C dX7_points_4 ml_X7_64 mc_X7_within ms_X7_within [.int x1, .int (1 : Int32), .int (6 : Int32)] rfl (Nat.le_of_ble_eq_true rfl) (Nat.le_of_ble_eq_true rfl) rfl (Nat.le_of_ble_eq_true rfl) (fun r h => c_X7_within N x1 (1 : Int32) (6 : Int32)  _  r h) hf (fun v1 hf => ?_)
  refine a_if_ne (pc := 7) 13 C dX7_points_7 (by decide) hf (fun hf => ?_) (fun hf => ?_)
  · refine a_iload_n (pc := 13) C dX7_points_13 1 rfl ?_
    refine a_bipush (pc := 14) (v := 6) C dX7_points_14 (by decide) ?_
    refine a_aload_n (pc := 16) C dX7_points_16 0 rfl ?_
    refine a_getR (pc := 17) C dX7_points_17 fl_X7_12 tx_0 rfl ?_
    refine a_getI (pc := 20) C dX7_points_20 fl_X7_68 net_1.1 rfl ?_
    refine a_isub (pc := 23) C dX7_points_23 ?_
    refine a_icmp_le (pc := 24) 30 C dX7_points_24 (by decide) hf (fun hf => ?_) (fun hf => ?_)
    · refine a_aload_n (pc := 30) C dX7_points_30 0 rfl ?_
      refine a_getR (pc := 31) C dX7_points_31 fl_X7_12 tx_0 rfl ?_
      refine a_iload_n (pc := 34) C dX7_points_34 1 rfl ?_
      refine a_callV_V (pc := 35) (d' := 1) C dX7_points_35 ml_X7_72 mc_X1_addPoints mv_X1_addPoints net_1.1 rfl [.int x1] rfl (Nat.le_of_ble_eq_true rfl) (Nat.le_of_ble_eq_true rfl) rfl (Nat.le_of_ble_eq_true rfl) (fun M' h => c_X1_addPoints N 1 x1 net_1 _  M' h) hf (fun M4 hf => ?_)
      refine a_aload_n (pc := 38) C dX7_points_38 0 rfl ?_
      refine a_getR (pc := 39) C dX7_points_39 fl_X7_12 tx_0 rfl ?_
      refine a_getI (pc := 42) C dX7_points_42 fl_X7_68 net_1.1 rfl ?_
      exact a_iret (pc := 45) C dX7_points_45 (so_1 hf) (so_2 hf)
    · refine a_bipush (pc := 27) (v := (-4)) C dX7_points_27 (by decide) ?_
      exact a_iret (pc := 29) C dX7_points_29 (so_1 hf) (so_2 hf)
  · refine a_bipush (pc := 10) (v := (-2)) C dX7_points_10 (by decide) ?_
    exact a_iret (pc := 12) C dX7_points_12 (so_1 hf) (so_2 hf)
theorem dX7_drop_0 : decode cX7_drop 0 = .ok (.aload_n 0, 1) := by decide +kernel
theorem dX7_drop_1 : decode cX7_drop 1 = .ok (.getfield 12, 3) := by decide +kernel
theorem dX7_drop_4 : decode cX7_drop 4 = .ok (.iload_n 1, 1) := by decide +kernel
theorem dX7_drop_5 : decode cX7_drop 5 = .ok (.invokevirtual 100, 3) := by decide +kernel
theorem dX7_drop_8 : decode cX7_drop 8 = .ok (.ifCond .ne 6, 3) := by decide +kernel
theorem dX7_drop_11 : decode cX7_drop 11 = .ok (.bipush (-2), 2) := by decide +kernel
theorem dX7_drop_13 : decode cX7_drop 13 = .ok (.ireturn, 1) := by decide +kernel
theorem dX7_drop_14 : decode cX7_drop 14 = .ok (.aload_n 0, 1) := by decide +kernel
theorem dX7_drop_15 : decode cX7_drop 15 = .ok (.getfield 25, 3) := by decide +kernel
theorem dX7_drop_18 : decode cX7_drop 18 = .ok (.invokevirtual 93, 3) := by decide +kernel
theorem dX7_drop_21 : decode cX7_drop 21 = .ok (.aload_n 0, 1) := by decide +kernel
theorem dX7_drop_22 : decode cX7_drop 22 = .ok (.getfield 12, 3) := by decide +kernel
theorem dX7_drop_25 : decode cX7_drop 25 = .ok (.iload_n 1, 1) := by decide +kernel
theorem dX7_drop_26 : decode cX7_drop 26 = .ok (.invokevirtual 120, 3) := by decide +kernel
theorem dX7_drop_29 : decode cX7_drop 29 = .ok (.aload_n 0, 1) := by decide +kernel
theorem dX7_drop_30 : decode cX7_drop 30 = .ok (.getfield 12, 3) := by decide +kernel
theorem dX7_drop_33 : decode cX7_drop 33 = .ok (.getfield 90, 3) := by decide +kernel
theorem dX7_drop_36 : decode cX7_drop 36 = .ok (.ireturn, 1) := by decide +kernel
def f_X7_drop (N : Nat) (x1 : Int32) (M : Mem) : Option (Int32 × Mem) := bd (f_X1_hasLine N 1 x1 M) (fun v1 => if v1 = 0 then (some ((-2 : Int32), M)) else (bd (f_X4_forget N  M) (fun M4 => bd (f_X1_removeLine N 1 x1 M4) (fun M6 => some ((M6.1 1 1), M6)))))
set_option maxRecDepth 100000 in
set_option maxHeartbeats 4000000 in
theorem c_X7_drop {l : Launch} {D : va_G} {ac : Nat → ClassId} {A : Nat → Prop} {ad : Nat → Nat} {rest : va_W} (N : Nat) (x1 : Int32)  (M : Mem) (r0 : Int32) (M0 : Mem) (hf : f_X7_drop N x1 M = some (r0, M0)) : CtI l D ac A tabX ad rest yX7_drop cX7_drop 2 .int 2 [.ref (ad 0), .int x1] M r0 M0 := by
  refine ct_ofI (own := RX7) (by decide +kernel) rfl (Nat.le_of_ble_eq_true rfl) ?_
  intro p e s m args below meth c C
  unfold f_X7_drop at hf
  refine a_L (L' := [(0, .ref (ad 0)), (1, .int x1)]) rfl ?_
  refine a_aload_n (pc := 0) C dX7_drop_0 0 rfl ?_
  refine a_getR (pc := 1) C dX7_drop_1 fl_X7_12 tx_0 rfl ?_
  refine a_iload_n (pc := 4) C dX7_drop_4 1 rfl ?_
  refine a_callV_Ir (pc := 5) (d' := 1) C dX7_drop_5 ml_X7_100 mc_X1_hasLine mv_X1_hasLine net_1.1 rfl [.int x1] rfl (Nat.le_of_ble_eq_true rfl) (Nat.le_of_ble_eq_true rfl) rfl (Nat.le_of_ble_eq_true rfl) (fun r h => c_X1_hasLine N 1 x1 net_1 _  r h) hf (fun v1 hf => ?_)
  refine a_if_ne (pc := 8) 14 C dX7_drop_8 (by decide) hf (fun hf => ?_) (fun hf => ?_)
  · refine a_aload_n (pc := 14) C dX7_drop_14 0 rfl ?_
    refine a_getR (pc := 15) C dX7_drop_15 fl_X7_25 tx_0 rfl ?_
    refine a_callV_V (pc := 18) (d' := 1) C dX7_drop_18 ml_X7_93 mc_X4_forget mv_X4_forget tx_19 rfl [] rfl (Nat.le_of_ble_eq_true rfl) (Nat.le_of_ble_eq_true rfl) rfl (Nat.le_of_ble_eq_true rfl) (fun M' h => c_X4_forget N   _  M' h) hf (fun M4 hf => ?_)
    refine a_aload_n (pc := 21) C dX7_drop_21 0 rfl ?_
    refine a_getR (pc := 22) C dX7_drop_22 fl_X7_12 tx_0 rfl ?_
    refine a_iload_n (pc := 25) C dX7_drop_25 1 rfl ?_
    refine a_callV_V (pc := 26) (d' := 1) C dX7_drop_26 ml_X7_120 mc_X1_removeLine mv_X1_removeLine net_1.1 rfl [.int x1] rfl (Nat.le_of_ble_eq_true rfl) (Nat.le_of_ble_eq_true rfl) rfl (Nat.le_of_ble_eq_true rfl) (fun M' h => c_X1_removeLine N 1 x1 net_1 _  M' h) hf (fun M6 hf => ?_)
    refine a_aload_n (pc := 29) C dX7_drop_29 0 rfl ?_
    refine a_getR (pc := 30) C dX7_drop_30 fl_X7_12 tx_0 rfl ?_
    refine a_getI (pc := 33) C dX7_drop_33 fl_X7_90 net_1.1 rfl ?_
    exact a_iret (pc := 36) C dX7_drop_36 (so_1 hf) (so_2 hf)
  · refine a_bipush (pc := 11) (v := (-2)) C dX7_drop_11 (by decide) ?_
    exact a_iret (pc := 13) C dX7_drop_13 (so_1 hf) (so_2 hf)
theorem dX7_list_0 : decode cX7_list 0 = .ok (.aload_n 0, 1) := by decide +kernel
theorem dX7_list_1 : decode cX7_list 1 = .ok (.getfield 12, 3) := by decide +kernel
theorem dX7_list_4 : decode cX7_list 4 = .ok (.iload_n 1, 1) := by decide +kernel
theorem dX7_list_5 : decode cX7_list 5 = .ok (.invokevirtual 83, 3) := by decide +kernel
theorem dX7_list_8 : decode cX7_list 8 = .ok (.ifCond .eq 13, 3) := by decide +kernel
theorem dX7_list_11 : decode cX7_list 11 = .ok (.lload_n 2, 1) := by decide +kernel
theorem dX7_list_12 : decode cX7_list 12 = .ok (.ldc2_w 123, 3) := by decide +kernel
theorem dX7_list_15 : decode cX7_list 15 = .ok (.land, 1) := by decide +kernel
theorem dX7_list_16 : decode cX7_list 16 = .ok (.lconst 0, 1) := by decide +kernel
theorem dX7_list_17 : decode cX7_list 17 = .ok (.lcmp, 1) := by decide +kernel
theorem dX7_list_18 : decode cX7_list 18 = .ok (.ifCond .eq 7, 3) := by decide +kernel
theorem dX7_list_21 : decode cX7_list 21 = .ok (.ldc2_w 125, 3) := by decide +kernel
theorem dX7_list_24 : decode cX7_list 24 = .ok (.lreturn, 1) := by decide +kernel
theorem dX7_list_25 : decode cX7_list 25 = .ok (.aload_n 0, 1) := by decide +kernel
theorem dX7_list_26 : decode cX7_list 26 = .ok (.getfield 12, 3) := by decide +kernel
theorem dX7_list_29 : decode cX7_list 29 = .ok (.getfield 127, 3) := by decide +kernel
theorem dX7_list_32 : decode cX7_list 32 = .ok (.iload_n 1, 1) := by decide +kernel
theorem dX7_list_33 : decode cX7_list 33 = .ok (.laload, 1) := by decide +kernel
theorem dX7_list_34 : decode cX7_list 34 = .ok (.lstore 4, 2) := by decide +kernel
theorem dX7_list_36 : decode cX7_list 36 = .ok (.aload_n 0, 1) := by decide +kernel
theorem dX7_list_37 : decode cX7_list 37 = .ok (.getfield 12, 3) := by decide +kernel
theorem dX7_list_40 : decode cX7_list 40 = .ok (.getfield 127, 3) := by decide +kernel
theorem dX7_list_43 : decode cX7_list 43 = .ok (.iload_n 1, 1) := by decide +kernel
theorem dX7_list_44 : decode cX7_list 44 = .ok (.lload_n 2, 1) := by decide +kernel
theorem dX7_list_45 : decode cX7_list 45 = .ok (.lastore, 1) := by decide +kernel
theorem dX7_list_46 : decode cX7_list 46 = .ok (.lload 4, 2) := by decide +kernel
theorem dX7_list_48 : decode cX7_list 48 = .ok (.lreturn, 1) := by decide +kernel
def f_X7_list (N : Nat) (x1 : Int32) (x2 : Int64) (M : Mem) : Option (Int64 × Mem) := bd (f_X1_hasPoint N 1 x1 M) (fun v1 => if v1 = 0 then (some ((-4611686018427387906 : Int64), M)) else (if (lg_cmp (x2 &&& (-1099511627776 : Int64)) (0 : Int64)) = 0 then (ck (inb x1 6) (nm (M.2 6 x1.toNatClampNeg) (fun v3 => ck (inb x1 6) (nm (setJ M 6 x1.toNatClampNeg x2) (fun M4 => some (v3, M4)))))) else (some ((-4611686018427387906 : Int64), M))))
set_option maxRecDepth 100000 in
set_option maxHeartbeats 4000000 in
theorem c_X7_list {l : Launch} {D : va_G} {ac : Nat → ClassId} {A : Nat → Prop} {ad : Nat → Nat} {rest : va_W} (N : Nat) (x1 : Int32) (x2 : Int64)  (M : Mem) (r0 : Int64) (M0 : Mem) (hf : f_X7_list N x1 x2 M = some (r0, M0)) : CtJ l D ac A tabX ad rest yX7_list cX7_list 6  2 [.ref (ad 0), .int x1, .long x2] M r0 M0 := by
  refine ct_ofJ (own := RX7) (by decide +kernel) rfl (Nat.le_of_ble_eq_true rfl) ?_
  intro p e s m args below meth c C
  unfold f_X7_list at hf
  refine a_L (L' := [(0, .ref (ad 0)), (1, .int x1), (2, .long x2)]) rfl ?_
  refine a_aload_n (pc := 0) C dX7_list_0 0 rfl ?_
  refine a_getR (pc := 1) C dX7_list_1 fl_X7_12 tx_0 rfl ?_
  refine a_iload_n (pc := 4) C dX7_list_4 1 rfl ?_
  refine a_callV_Ir (pc := 5) (d' := 1) C dX7_list_5 ml_X7_83 mc_X1_hasPoint mv_X1_hasPoint net_1.1 rfl [.int x1] rfl (Nat.le_of_ble_eq_true rfl) (Nat.le_of_ble_eq_true rfl) rfl (Nat.le_of_ble_eq_true rfl) (fun r h => c_X1_hasPoint N 1 x1 net_1 _  r h) hf (fun v1 hf => ?_)
  refine a_if_eq (pc := 8) 21 C dX7_list_8 (by decide) hf (fun hf => ?_) (fun hf => ?_)
  · refine a_ldc2 (pc := 21) C dX7_list_21 cj_X7_125 ?_
    exact a_lret (pc := 24) C dX7_list_24 (so_1 hf) (so_2 hf)
  · refine a_lload_n (pc := 11) C dX7_list_11 2 rfl ?_
    refine a_ldc2 (pc := 12) C dX7_list_12 cj_X7_123 ?_
    refine a_land (pc := 15) C dX7_list_15 ?_
    refine a_lconst (pc := 16) (v := 0) C dX7_list_16 (by decide) ?_
    refine a_lcmp (pc := 17) C dX7_list_17 ?_
    refine a_if_eq (pc := 18) 25 C dX7_list_18 (by decide) hf (fun hf => ?_) (fun hf => ?_)
    · refine a_aload_n (pc := 25) C dX7_list_25 0 rfl ?_
      refine a_getR (pc := 26) C dX7_list_26 fl_X7_12 tx_0 rfl ?_
      refine a_getR (pc := 29) C dX7_list_29 fl_X7_127 net_1.1 rfl ?_
      refine a_iload_n (pc := 32) C dX7_list_32 1 rfl ?_
      refine a_lald (pc := 33) C dX7_list_33 net_1.2.2.2.2.2 hf (fun hf => ?_)
      refine a_nml hf (fun v3 hf => ?_)
      refine a_lstore (pc := 34) [(4, .long v3), (0, .ref (ad 0)), (1, .int x1), (2, .long x2)] C dX7_list_34 (by decide) rfl ?_
      refine a_aload_n (pc := 36) C dX7_list_36 1 rfl ?_
      refine a_getR (pc := 37) C dX7_list_37 fl_X7_12 tx_0 rfl ?_
      refine a_getR (pc := 40) C dX7_list_40 fl_X7_127 net_1.1 rfl ?_
      refine a_iload_n (pc := 43) C dX7_list_43 2 rfl ?_
      refine a_lload_n (pc := 44) C dX7_list_44 3 rfl ?_
      refine a_last (pc := 45) C dX7_list_45 net_1.2.2.2.2.2 hf (fun M4 hf => ?_)
      refine a_lload (pc := 46) C dX7_list_46 0 rfl ?_
      exact a_lret (pc := 48) C dX7_list_48 (so_1 hf) (so_2 hf)
    · refine a_ldc2 (pc := 21) C dX7_list_21 cj_X7_125 ?_
      exact a_lret (pc := 24) C dX7_list_24 (so_1 hf) (so_2 hf)
theorem dX7_feed_0 : decode cX7_feed 0 = .ok (.iload_n 2, 1) := by decide +kernel
theorem dX7_feed_1 : decode cX7_feed 1 = .ok (.iconst 1, 1) := by decide +kernel
theorem dX7_feed_2 : decode cX7_feed 2 = .ok (.iconst 4, 1) := by decide +kernel
theorem dX7_feed_3 : decode cX7_feed 3 = .ok (.invokestatic 64, 3) := by decide +kernel
theorem dX7_feed_6 : decode cX7_feed 6 = .ok (.ifCond .ne 6, 3) := by decide +kernel
theorem dX7_feed_9 : decode cX7_feed 9 = .ok (.bipush (-2), 2) := by decide +kernel
theorem dX7_feed_11 : decode cX7_feed 11 = .ok (.ireturn, 1) := by decide +kernel
theorem dX7_feed_12 : decode cX7_feed 12 = .ok (.iload_n 2, 1) := by decide +kernel
theorem dX7_feed_13 : decode cX7_feed 13 = .ok (.bipush 120, 2) := by decide +kernel
theorem dX7_feed_15 : decode cX7_feed 15 = .ok (.aload_n 0, 1) := by decide +kernel
theorem dX7_feed_16 : decode cX7_feed 16 = .ok (.getfield 39, 3) := by decide +kernel
theorem dX7_feed_19 : decode cX7_feed 19 = .ok (.getfield 138, 3) := by decide +kernel
theorem dX7_feed_22 : decode cX7_feed 22 = .ok (.isub, 1) := by decide +kernel
theorem dX7_feed_23 : decode cX7_feed 23 = .ok (.if_icmp .le 6, 3) := by decide +kernel
theorem dX7_feed_26 : decode cX7_feed 26 = .ok (.bipush (-4), 2) := by decide +kernel
theorem dX7_feed_28 : decode cX7_feed 28 = .ok (.ireturn, 1) := by decide +kernel
theorem dX7_feed_29 : decode cX7_feed 29 = .ok (.iload_n 2, 1) := by decide +kernel
theorem dX7_feed_30 : decode cX7_feed 30 = .ok (.iconst 1, 1) := by decide +kernel
theorem dX7_feed_31 : decode cX7_feed 31 = .ok (.isub, 1) := by decide +kernel
theorem dX7_feed_32 : decode cX7_feed 32 = .ok (.istore_n 3, 1) := by decide +kernel
theorem dX7_feed_33 : decode cX7_feed 33 = .ok (.iload_n 3, 1) := by decide +kernel
theorem dX7_feed_34 : decode cX7_feed 34 = .ok (.ifCond .lt 26, 3) := by decide +kernel
theorem dX7_feed_37 : decode cX7_feed 37 = .ok (.aload_n 0, 1) := by decide +kernel
theorem dX7_feed_38 : decode cX7_feed 38 = .ok (.getfield 39, 3) := by decide +kernel
theorem dX7_feed_41 : decode cX7_feed 41 = .ok (.iload_n 1, 1) := by decide +kernel
theorem dX7_feed_42 : decode cX7_feed 42 = .ok (.bipush 8, 2) := by decide +kernel
theorem dX7_feed_44 : decode cX7_feed 44 = .ok (.iload_n 3, 1) := by decide +kernel
theorem dX7_feed_45 : decode cX7_feed 45 = .ok (.imul, 1) := by decide +kernel
theorem dX7_feed_46 : decode cX7_feed 46 = .ok (.ishr, 1) := by decide +kernel
theorem dX7_feed_47 : decode cX7_feed 47 = .ok (.sipush 255, 3) := by decide +kernel
theorem dX7_feed_50 : decode cX7_feed 50 = .ok (.iand, 1) := by decide +kernel
theorem dX7_feed_51 : decode cX7_feed 51 = .ok (.invokevirtual 318, 3) := by decide +kernel
theorem dX7_feed_54 : decode cX7_feed 54 = .ok (.iinc 3 (-1), 3) := by decide +kernel
theorem dX7_feed_57 : decode cX7_feed 57 = .ok (.goto (-24), 3) := by decide +kernel
theorem dX7_feed_60 : decode cX7_feed 60 = .ok (.aload_n 0, 1) := by decide +kernel
theorem dX7_feed_61 : decode cX7_feed 61 = .ok (.getfield 39, 3) := by decide +kernel
theorem dX7_feed_64 : decode cX7_feed 64 = .ok (.getfield 138, 3) := by decide +kernel
theorem dX7_feed_67 : decode cX7_feed 67 = .ok (.ireturn, 1) := by decide +kernel
def f_X7_feed (N : Nat) (x1 : Int32) (x2 : Int32) (M : Mem) : Option (Int32 × Mem) := bd (f_X7_within N x2 (1 : Int32) (4 : Int32) M) (fun v1 => if v1 = 0 then (some ((-2 : Int32), M)) else (if x2 ≤ ((120 : Int32) - (M.1 31 0)) then (nm (x2 - (1 : Int32)) (fun v3 => lp (fun (k33 : (Int32 × Mem) → Option (Int32 × Mem)) (a33 : Int32 × Mem) => if a33.1 < 0 then (some ((a33.2.1 31 0), a33.2)) else (bd (f_X6_append N ((x1 >>> (((8 : Int32) * a33.1) &&& 31)) &&& (255 : Int32)) a33.2) (fun M5 => nm (a33.1 + (-1 : Int32)) (fun v6 => k33 (v6, M5))))) N (v3, M))) else (some ((-4 : Int32), M))))
set_option maxRecDepth 100000 in
set_option maxHeartbeats 4000000 in
theorem c_X7_feed {l : Launch} {D : va_G} {ac : Nat → ClassId} {A : Nat → Prop} {ad : Nat → Nat} {rest : va_W} (N : Nat) (x1 : Int32) (x2 : Int32)  (M : Mem) (r0 : Int32) (M0 : Mem) (hf : f_X7_feed N x1 x2 M = some (r0, M0)) : CtI l D ac A tabX ad rest yX7_feed cX7_feed 4 .int 2 [.ref (ad 0), .int x1, .int x2] M r0 M0 := by
  refine ct_ofI (own := RX7) (by decide +kernel) rfl (Nat.le_of_ble_eq_true rfl) ?_
  intro p e s m args below meth c C
  unfold f_X7_feed at hf
  refine a_L (L' := [(0, .ref (ad 0)), (1, .int x1), (2, .int x2)]) rfl ?_
  refine a_iload_n (pc := 0) C dX7_feed_0 2 rfl ?_
  refine a_iconst (pc := 1) (v := 1) C dX7_feed_1 (by decide) ?_
  refine a_iconst (pc := 2) (v := 4) C dX7_feed_2 (by decide) ?_
  refine a_callS_Ir (pc := 3) (d' := 1) C dX7_feed_3 ml_X7_64 mc_X7_within ms_X7_within [.int x2, .int (1 : Int32), .int (4 : Int32)] rfl (Nat.le_of_ble_eq_true rfl) (Nat.le_of_ble_eq_true rfl) rfl (Nat.le_of_ble_eq_true rfl) (fun r h => c_X7_within N x2 (1 : Int32) (4 : Int32)  _  r h) hf (fun v1 hf => ?_)
  refine a_if_ne (pc := 6) 12 C dX7_feed_6 (by decide) hf (fun hf => ?_) (fun hf => ?_)
  · refine a_iload_n (pc := 12) C dX7_feed_12 2 rfl ?_
    refine a_bipush (pc := 13) (v := 120) C dX7_feed_13 (by decide) ?_
    refine a_aload_n (pc := 15) C dX7_feed_15 0 rfl ?_
    refine a_getR (pc := 16) C dX7_feed_16 fl_X7_39 tx_0 rfl ?_
    refine a_getI (pc := 19) C dX7_feed_19 fl_X7_138 tx_31 rfl ?_
    refine a_isub (pc := 22) C dX7_feed_22 ?_
    refine a_icmp_le (pc := 23) 29 C dX7_feed_23 (by decide) hf (fun hf => ?_) (fun hf => ?_)
    · refine a_iload_n (pc := 29) C dX7_feed_29 2 rfl ?_
      refine a_iconst (pc := 30) (v := 1) C dX7_feed_30 (by decide) ?_
      refine a_isub (pc := 31) C dX7_feed_31 ?_
      refine a_nmi hf (fun v3 hf => ?_)
      refine a_istore_n (pc := 32) [(3, .int v3), (0, .ref (ad 0)), (1, .int x1), (2, .int x2)] C dX7_feed_32 (by decide) rfl ?_
      refine a_sub [1, 2, 0] rfl ?_
      refine a_lp 33 (fun a33 : Int32 × Mem => [(0, .ref (ad 0)), (1, .int x1), (3, .int a33.1)]) (fun a33 : Int32 × Mem => []) (fun a33 : Int32 × Mem => a33.2) (fun k33 a33 hk33 hf => ?_) N (v3, M) hf
      refine a_iload_n (pc := 33) C dX7_feed_33 2 rfl ?_
      refine a_if_lt (pc := 34) 60 C dX7_feed_34 (by decide) hf (fun hf => ?_) (fun hf => ?_)
      · refine a_aload_n (pc := 60) C dX7_feed_60 0 rfl ?_
        refine a_getR (pc := 61) C dX7_feed_61 fl_X7_39 tx_0 rfl ?_
        refine a_getI (pc := 64) C dX7_feed_64 fl_X7_138 tx_31 rfl ?_
        exact a_iret (pc := 67) C dX7_feed_67 (so_1 hf) (so_2 hf)
      · refine a_aload_n (pc := 37) C dX7_feed_37 0 rfl ?_
        refine a_getR (pc := 38) C dX7_feed_38 fl_X7_39 tx_0 rfl ?_
        refine a_iload_n (pc := 41) C dX7_feed_41 1 rfl ?_
        refine a_bipush (pc := 42) (v := 8) C dX7_feed_42 (by decide) ?_
        refine a_iload_n (pc := 44) C dX7_feed_44 2 rfl ?_
        refine a_imul (pc := 45) C dX7_feed_45 ?_
        refine a_ishr (pc := 46) C dX7_feed_46 ?_
        refine a_sipush (pc := 47) (v := 255) C dX7_feed_47 (by decide) ?_
        refine a_iand (pc := 50) C dX7_feed_50 ?_
        refine a_callV_V (pc := 51) (d' := 1) C dX7_feed_51 ml_X7_318 mc_X6_append mv_X6_append tx_31 rfl [.int ((x1 >>> (((8 : Int32) * a33.1) &&& 31)) &&& (255 : Int32))] rfl (Nat.le_of_ble_eq_true rfl) (Nat.le_of_ble_eq_true rfl) rfl (Nat.le_of_ble_eq_true rfl) (fun M' h => c_X6_append N ((x1 >>> (((8 : Int32) * a33.1) &&& 31)) &&& (255 : Int32))  _  M' h) hf (fun M5 hf => ?_)
        refine a_iinc (pc := 54) (v := (-1)) (fun v6 => [(3, .int v6), (0, .ref (ad 0)), (1, .int x1)]) C dX7_feed_54 2 rfl (by decide) (by decide) (fun _ => rfl) hf (fun v6 hf => ?_)
        refine a_goto (pc := 57) 33 C dX7_feed_57 (by decide) ?_
        exact a_sub [1, 2, 0] rfl (hk33 (v6, M5) hf)
    · refine a_bipush (pc := 26) (v := (-4)) C dX7_feed_26 (by decide) ?_
      exact a_iret (pc := 28) C dX7_feed_28 (so_1 hf) (so_2 hf)
  · refine a_bipush (pc := 9) (v := (-2)) C dX7_feed_9 (by decide) ?_
    exact a_iret (pc := 11) C dX7_feed_11 (so_1 hf) (so_2 hf)
theorem dX7_image_0 : decode cX7_image 0 = .ok (.aload_n 0, 1) := by decide +kernel
theorem dX7_image_1 : decode cX7_image 1 = .ok (.getfield 16, 3) := by decide +kernel
theorem dX7_image_4 : decode cX7_image 4 = .ok (.aload_n 0, 1) := by decide +kernel
theorem dX7_image_5 : decode cX7_image 5 = .ok (.getfield 12, 3) := by decide +kernel
theorem dX7_image_8 : decode cX7_image 8 = .ok (.invokevirtual 321, 3) := by decide +kernel
theorem dX7_image_11 : decode cX7_image 11 = .ok (.aload_n 0, 1) := by decide +kernel
theorem dX7_image_12 : decode cX7_image 12 = .ok (.iconst 1, 1) := by decide +kernel
theorem dX7_image_13 : decode cX7_image 13 = .ok (.putfield 348, 3) := by decide +kernel
theorem dX7_image_16 : decode cX7_image 16 = .ok (.aload_n 0, 1) := by decide +kernel
theorem dX7_image_17 : decode cX7_image 17 = .ok (.getfield 12, 3) := by decide +kernel
theorem dX7_image_20 : decode cX7_image 20 = .ok (.getfield 90, 3) := by decide +kernel
theorem dX7_image_23 : decode cX7_image 23 = .ok (.ireturn, 1) := by decide +kernel
def f_X7_image (N : Nat)  (M : Mem) : Option (Int32 × Mem) := bd (f_X1_become N 7 1 M) (fun M2 => ck ((1 : Int32) = 0 ∨ (1 : Int32) = 1) (nm (setI M2 0 3 (1 : Int32)) (fun M3 => some ((M3.1 1 1), M3))))
set_option maxRecDepth 100000 in
set_option maxHeartbeats 4000000 in
theorem c_X7_image {l : Launch} {D : va_G} {ac : Nat → ClassId} {A : Nat → Prop} {ad : Nat → Nat} {rest : va_W} (N : Nat)   (M : Mem) (r0 : Int32) (M0 : Mem) (hf : f_X7_image N  M = some (r0, M0)) : CtI l D ac A tabX ad rest yX7_image cX7_image 1 .int 2 [.ref (ad 0)] M r0 M0 := by
  refine ct_ofI (own := RX7) (by decide +kernel) rfl (Nat.le_of_ble_eq_true rfl) ?_
  intro p e s m args below meth c C
  unfold f_X7_image at hf
  refine a_L (L' := [(0, .ref (ad 0))]) rfl ?_
  refine a_aload_n (pc := 0) C dX7_image_0 0 rfl ?_
  refine a_getR (pc := 1) C dX7_image_1 fl_X7_16 tx_0 rfl ?_
  refine a_aload_n (pc := 4) C dX7_image_4 0 rfl ?_
  refine a_getR (pc := 5) C dX7_image_5 fl_X7_12 tx_0 rfl ?_
  refine a_callV_V (pc := 8) (d' := 1) C dX7_image_8 ml_X7_321 mc_X1_become mv_X1_become net_7.1 rfl [.ref (ad 1)] rfl (Nat.le_of_ble_eq_true rfl) (Nat.le_of_ble_eq_true rfl) rfl (Nat.le_of_ble_eq_true rfl) (fun M' h => c_X1_become N 7 1 net_7 net_1 _  M' h) hf (fun M2 hf => ?_)
  refine a_aload_n (pc := 11) C dX7_image_11 0 rfl ?_
  refine a_iconst (pc := 12) (v := 1) C dX7_image_12 (by decide) ?_
  refine a_putZ (pc := 13) C dX7_image_13 fl_X7_348 tx_0 rfl hf (fun M3 hf => ?_)
  refine a_aload_n (pc := 16) C dX7_image_16 0 rfl ?_
  refine a_getR (pc := 17) C dX7_image_17 fl_X7_12 tx_0 rfl ?_
  refine a_getI (pc := 20) C dX7_image_20 fl_X7_90 net_1.1 rfl ?_
  exact a_iret (pc := 23) C dX7_image_23 (so_1 hf) (so_2 hf)
theorem dX7_back_0 : decode cX7_back 0 = .ok (.aload_n 0, 1) := by decide +kernel
theorem dX7_back_1 : decode cX7_back 1 = .ok (.getfield 348, 3) := by decide +kernel
theorem dX7_back_4 : decode cX7_back 4 = .ok (.ifCond .ne 6, 3) := by decide +kernel
theorem dX7_back_7 : decode cX7_back 7 = .ok (.bipush (-3), 2) := by decide +kernel
theorem dX7_back_9 : decode cX7_back 9 = .ok (.ireturn, 1) := by decide +kernel
theorem dX7_back_10 : decode cX7_back 10 = .ok (.aload_n 0, 1) := by decide +kernel
theorem dX7_back_11 : decode cX7_back 11 = .ok (.getfield 25, 3) := by decide +kernel
theorem dX7_back_14 : decode cX7_back 14 = .ok (.invokevirtual 93, 3) := by decide +kernel
theorem dX7_back_17 : decode cX7_back 17 = .ok (.aload_n 0, 1) := by decide +kernel
theorem dX7_back_18 : decode cX7_back 18 = .ok (.getfield 12, 3) := by decide +kernel
theorem dX7_back_21 : decode cX7_back 21 = .ok (.aload_n 0, 1) := by decide +kernel
theorem dX7_back_22 : decode cX7_back 22 = .ok (.getfield 16, 3) := by decide +kernel
theorem dX7_back_25 : decode cX7_back 25 = .ok (.invokevirtual 321, 3) := by decide +kernel
theorem dX7_back_28 : decode cX7_back 28 = .ok (.aload_n 0, 1) := by decide +kernel
theorem dX7_back_29 : decode cX7_back 29 = .ok (.getfield 12, 3) := by decide +kernel
theorem dX7_back_32 : decode cX7_back 32 = .ok (.getfield 90, 3) := by decide +kernel
theorem dX7_back_35 : decode cX7_back 35 = .ok (.ireturn, 1) := by decide +kernel
def f_X7_back (N : Nat)  (M : Mem) : Option (Int32 × Mem) := if (M.1 0 3) = 0 then (some ((-3 : Int32), M)) else (bd (f_X4_forget N  M) (fun M2 => bd (f_X1_become N 1 7 M2) (fun M4 => some ((M4.1 1 1), M4))))
set_option maxRecDepth 100000 in
set_option maxHeartbeats 4000000 in
theorem c_X7_back {l : Launch} {D : va_G} {ac : Nat → ClassId} {A : Nat → Prop} {ad : Nat → Nat} {rest : va_W} (N : Nat)   (M : Mem) (r0 : Int32) (M0 : Mem) (hf : f_X7_back N  M = some (r0, M0)) : CtI l D ac A tabX ad rest yX7_back cX7_back 1 .int 2 [.ref (ad 0)] M r0 M0 := by
  refine ct_ofI (own := RX7) (by decide +kernel) rfl (Nat.le_of_ble_eq_true rfl) ?_
  intro p e s m args below meth c C
  unfold f_X7_back at hf
  refine a_L (L' := [(0, .ref (ad 0))]) rfl ?_
  refine a_aload_n (pc := 0) C dX7_back_0 0 rfl ?_
  refine a_getI (pc := 1) C dX7_back_1 fl_X7_348 tx_0 rfl ?_
  refine a_if_ne (pc := 4) 10 C dX7_back_4 (by decide) hf (fun hf => ?_) (fun hf => ?_)
  · refine a_aload_n (pc := 10) C dX7_back_10 0 rfl ?_
    refine a_getR (pc := 11) C dX7_back_11 fl_X7_25 tx_0 rfl ?_
    refine a_callV_V (pc := 14) (d' := 1) C dX7_back_14 ml_X7_93 mc_X4_forget mv_X4_forget tx_19 rfl [] rfl (Nat.le_of_ble_eq_true rfl) (Nat.le_of_ble_eq_true rfl) rfl (Nat.le_of_ble_eq_true rfl) (fun M' h => c_X4_forget N   _  M' h) hf (fun M2 hf => ?_)
    refine a_aload_n (pc := 17) C dX7_back_17 0 rfl ?_
    refine a_getR (pc := 18) C dX7_back_18 fl_X7_12 tx_0 rfl ?_
    refine a_aload_n (pc := 21) C dX7_back_21 0 rfl ?_
    refine a_getR (pc := 22) C dX7_back_22 fl_X7_16 tx_0 rfl ?_
    refine a_callV_V (pc := 25) (d' := 1) C dX7_back_25 ml_X7_321 mc_X1_become mv_X1_become net_1.1 rfl [.ref (ad 7)] rfl (Nat.le_of_ble_eq_true rfl) (Nat.le_of_ble_eq_true rfl) rfl (Nat.le_of_ble_eq_true rfl) (fun M' h => c_X1_become N 1 7 net_1 net_7 _  M' h) hf (fun M4 hf => ?_)
    refine a_aload_n (pc := 28) C dX7_back_28 0 rfl ?_
    refine a_getR (pc := 29) C dX7_back_29 fl_X7_12 tx_0 rfl ?_
    refine a_getI (pc := 32) C dX7_back_32 fl_X7_90 net_1.1 rfl ?_
    exact a_iret (pc := 35) C dX7_back_35 (so_1 hf) (so_2 hf)
  · refine a_bipush (pc := 7) (v := (-3)) C dX7_back_7 (by decide) ?_
    exact a_iret (pc := 9) C dX7_back_9 (so_1 hf) (so_2 hf)
theorem dX7_isKind_0 : decode cX7_isKind 0 = .ok (.iload_n 0, 1) := by decide +kernel
theorem dX7_isKind_1 : decode cX7_isKind 1 = .ok (.iconst 0, 1) := by decide +kernel
theorem dX7_isKind_2 : decode cX7_isKind 2 = .ok (.iconst 4, 1) := by decide +kernel
theorem dX7_isKind_3 : decode cX7_isKind 3 = .ok (.invokestatic 64, 3) := by decide +kernel
theorem dX7_isKind_6 : decode cX7_isKind 6 = .ok (.ireturn, 1) := by decide +kernel
def f_X7_isKind (N : Nat) (x0 : Int32) (M : Mem) : Option (Int32) := bd (f_X7_within N x0 (0 : Int32) (4 : Int32) M) (fun v1 => ck (v1 = 0 ∨ v1 = 1) (some v1))
set_option maxRecDepth 100000 in
set_option maxHeartbeats 4000000 in
theorem c_X7_isKind {l : Launch} {D : va_G} {ac : Nat → ClassId} {A : Nat → Prop} {ad : Nat → Nat} {rest : va_W} (N : Nat) (x0 : Int32)  (M : Mem) (r0 : Int32) (hf : f_X7_isKind N x0 M = some r0) : CtI l D ac A tabX ad rest yX7_isKind cX7_isKind 1 .boolean 2 [.int x0] M r0 M := by
  refine ct_ofI (own := RX7) (by decide +kernel) rfl (Nat.le_of_ble_eq_true rfl) ?_
  intro p e s m args below meth c C
  unfold f_X7_isKind at hf
  refine a_L (L' := [(0, .int x0)]) rfl ?_
  refine a_iload_n (pc := 0) C dX7_isKind_0 0 rfl ?_
  refine a_iconst (pc := 1) (v := 0) C dX7_isKind_1 (by decide) ?_
  refine a_iconst (pc := 2) (v := 4) C dX7_isKind_2 (by decide) ?_
  refine a_callS_Ir (pc := 3) (d' := 1) C dX7_isKind_3 ml_X7_64 mc_X7_within ms_X7_within [.int x0, .int (0 : Int32), .int (4 : Int32)] rfl (Nat.le_of_ble_eq_true rfl) (Nat.le_of_ble_eq_true rfl) rfl (Nat.le_of_ble_eq_true rfl) (fun r h => c_X7_within N x0 (0 : Int32) (4 : Int32)  _  r h) hf (fun v1 hf => ?_)
  exact a_zret (pc := 6) C dX7_isKind_6 (ck_some hf).1 (Option.some.inj (ck_some hf).2) rfl
theorem dX7_isFigure_0 : decode cX7_isFigure 0 = .ok (.iload_n 0, 1) := by decide +kernel
theorem dX7_isFigure_1 : decode cX7_isFigure 1 = .ok (.iconst 1, 1) := by decide +kernel
theorem dX7_isFigure_2 : decode cX7_isFigure 2 = .ok (.iconst 3, 1) := by decide +kernel
theorem dX7_isFigure_3 : decode cX7_isFigure 3 = .ok (.invokestatic 64, 3) := by decide +kernel
theorem dX7_isFigure_6 : decode cX7_isFigure 6 = .ok (.ireturn, 1) := by decide +kernel
def f_X7_isFigure (N : Nat) (x0 : Int32) (M : Mem) : Option (Int32) := bd (f_X7_within N x0 (1 : Int32) (3 : Int32) M) (fun v1 => ck (v1 = 0 ∨ v1 = 1) (some v1))
set_option maxRecDepth 100000 in
set_option maxHeartbeats 4000000 in
theorem c_X7_isFigure {l : Launch} {D : va_G} {ac : Nat → ClassId} {A : Nat → Prop} {ad : Nat → Nat} {rest : va_W} (N : Nat) (x0 : Int32)  (M : Mem) (r0 : Int32) (hf : f_X7_isFigure N x0 M = some r0) : CtI l D ac A tabX ad rest yX7_isFigure cX7_isFigure 1 .boolean 2 [.int x0] M r0 M := by
  refine ct_ofI (own := RX7) (by decide +kernel) rfl (Nat.le_of_ble_eq_true rfl) ?_
  intro p e s m args below meth c C
  unfold f_X7_isFigure at hf
  refine a_L (L' := [(0, .int x0)]) rfl ?_
  refine a_iload_n (pc := 0) C dX7_isFigure_0 0 rfl ?_
  refine a_iconst (pc := 1) (v := 1) C dX7_isFigure_1 (by decide) ?_
  refine a_iconst (pc := 2) (v := 3) C dX7_isFigure_2 (by decide) ?_
  refine a_callS_Ir (pc := 3) (d' := 1) C dX7_isFigure_3 ml_X7_64 mc_X7_within ms_X7_within [.int x0, .int (1 : Int32), .int (3 : Int32)] rfl (Nat.le_of_ble_eq_true rfl) (Nat.le_of_ble_eq_true rfl) rfl (Nat.le_of_ble_eq_true rfl) (fun r h => c_X7_within N x0 (1 : Int32) (3 : Int32)  _  r h) hf (fun v1 hf => ?_)
  exact a_zret (pc := 6) C dX7_isFigure_6 (ck_some hf).1 (Option.some.inj (ck_some hf).2) rfl
theorem dX7_isHold_0 : decode cX7_isHold 0 = .ok (.iload_n 0, 1) := by decide +kernel
theorem dX7_isHold_1 : decode cX7_isHold 1 = .ok (.iconst 0, 1) := by decide +kernel
theorem dX7_isHold_2 : decode cX7_isHold 2 = .ok (.iconst 3, 1) := by decide +kernel
theorem dX7_isHold_3 : decode cX7_isHold 3 = .ok (.invokestatic 64, 3) := by decide +kernel
theorem dX7_isHold_6 : decode cX7_isHold 6 = .ok (.ireturn, 1) := by decide +kernel
def f_X7_isHold (N : Nat) (x0 : Int32) (M : Mem) : Option (Int32) := bd (f_X7_within N x0 (0 : Int32) (3 : Int32) M) (fun v1 => ck (v1 = 0 ∨ v1 = 1) (some v1))
set_option maxRecDepth 100000 in
set_option maxHeartbeats 4000000 in
theorem c_X7_isHold {l : Launch} {D : va_G} {ac : Nat → ClassId} {A : Nat → Prop} {ad : Nat → Nat} {rest : va_W} (N : Nat) (x0 : Int32)  (M : Mem) (r0 : Int32) (hf : f_X7_isHold N x0 M = some r0) : CtI l D ac A tabX ad rest yX7_isHold cX7_isHold 1 .boolean 2 [.int x0] M r0 M := by
  refine ct_ofI (own := RX7) (by decide +kernel) rfl (Nat.le_of_ble_eq_true rfl) ?_
  intro p e s m args below meth c C
  unfold f_X7_isHold at hf
  refine a_L (L' := [(0, .int x0)]) rfl ?_
  refine a_iload_n (pc := 0) C dX7_isHold_0 0 rfl ?_
  refine a_iconst (pc := 1) (v := 0) C dX7_isHold_1 (by decide) ?_
  refine a_iconst (pc := 2) (v := 3) C dX7_isHold_2 (by decide) ?_
  refine a_callS_Ir (pc := 3) (d' := 1) C dX7_isHold_3 ml_X7_64 mc_X7_within ms_X7_within [.int x0, .int (0 : Int32), .int (3 : Int32)] rfl (Nat.le_of_ble_eq_true rfl) (Nat.le_of_ble_eq_true rfl) rfl (Nat.le_of_ble_eq_true rfl) (fun r h => c_X7_within N x0 (0 : Int32) (3 : Int32)  _  r h) hf (fun v1 hf => ?_)
  exact a_zret (pc := 6) C dX7_isHold_6 (ck_some hf).1 (Option.some.inj (ck_some hf).2) rfl
theorem dX7_isSheet_0 : decode cX7_isSheet 0 = .ok (.iload_n 0, 1) := by decide +kernel
theorem dX7_isSheet_1 : decode cX7_isSheet 1 = .ok (.iconst 0, 1) := by decide +kernel
theorem dX7_isSheet_2 : decode cX7_isSheet 2 = .ok (.iconst 3, 1) := by decide +kernel
theorem dX7_isSheet_3 : decode cX7_isSheet 3 = .ok (.invokestatic 64, 3) := by decide +kernel
theorem dX7_isSheet_6 : decode cX7_isSheet 6 = .ok (.ireturn, 1) := by decide +kernel
def f_X7_isSheet (N : Nat) (x0 : Int32) (M : Mem) : Option (Int32) := bd (f_X7_within N x0 (0 : Int32) (3 : Int32) M) (fun v1 => ck (v1 = 0 ∨ v1 = 1) (some v1))
set_option maxRecDepth 100000 in
set_option maxHeartbeats 4000000 in
theorem c_X7_isSheet {l : Launch} {D : va_G} {ac : Nat → ClassId} {A : Nat → Prop} {ad : Nat → Nat} {rest : va_W} (N : Nat) (x0 : Int32)  (M : Mem) (r0 : Int32) (hf : f_X7_isSheet N x0 M = some r0) : CtI l D ac A tabX ad rest yX7_isSheet cX7_isSheet 1 .boolean 2 [.int x0] M r0 M := by
  refine ct_ofI (own := RX7) (by decide +kernel) rfl (Nat.le_of_ble_eq_true rfl) ?_
  intro p e s m args below meth c C
  unfold f_X7_isSheet at hf
  refine a_L (L' := [(0, .int x0)]) rfl ?_
  refine a_iload_n (pc := 0) C dX7_isSheet_0 0 rfl ?_
  refine a_iconst (pc := 1) (v := 0) C dX7_isSheet_1 (by decide) ?_
  refine a_iconst (pc := 2) (v := 3) C dX7_isSheet_2 (by decide) ?_
  refine a_callS_Ir (pc := 3) (d' := 1) C dX7_isSheet_3 ml_X7_64 mc_X7_within ms_X7_within [.int x0, .int (0 : Int32), .int (3 : Int32)] rfl (Nat.le_of_ble_eq_true rfl) (Nat.le_of_ble_eq_true rfl) rfl (Nat.le_of_ble_eq_true rfl) (fun r h => c_X7_within N x0 (0 : Int32) (3 : Int32)  _  r h) hf (fun v1 hf => ?_)
  exact a_zret (pc := 6) C dX7_isSheet_6 (ck_some hf).1 (Option.some.inj (ck_some hf).2) rfl
theorem dX7_areMeasures_0 : decode cX7_areMeasures 0 = .ok (.iload_n 2, 1) := by decide +kernel
theorem dX7_areMeasures_1 : decode cX7_areMeasures 1 = .ok (.iconst 0, 1) := by decide +kernel
theorem dX7_areMeasures_2 : decode cX7_areMeasures 2 = .ok (.iconst 1, 1) := by decide +kernel
theorem dX7_areMeasures_3 : decode cX7_areMeasures 3 = .ok (.invokestatic 64, 3) := by decide +kernel
theorem dX7_areMeasures_6 : decode cX7_areMeasures 6 = .ok (.ifCond .eq 37, 3) := by decide +kernel
theorem dX7_areMeasures_9 : decode cX7_areMeasures 9 = .ok (.iload_n 0, 1) := by decide +kernel
theorem dX7_areMeasures_10 : decode cX7_areMeasures 10 = .ok (.iconst 1, 1) := by decide +kernel
theorem dX7_areMeasures_11 : decode cX7_areMeasures 11 = .ok (.iload_n 2, 1) := by decide +kernel
theorem dX7_areMeasures_12 : decode cX7_areMeasures 12 = .ok (.iconst 1, 1) := by decide +kernel
theorem dX7_areMeasures_13 : decode cX7_areMeasures 13 = .ok (.if_icmp .ne 8, 3) := by decide +kernel
theorem dX7_areMeasures_16 : decode cX7_areMeasures 16 = .ok (.bipush 16, 2) := by decide +kernel
theorem dX7_areMeasures_18 : decode cX7_areMeasures 18 = .ok (.goto 5, 3) := by decide +kernel
theorem dX7_areMeasures_21 : decode cX7_areMeasures 21 = .ok (.bipush 40, 2) := by decide +kernel
theorem dX7_areMeasures_23 : decode cX7_areMeasures 23 = .ok (.invokestatic 64, 3) := by decide +kernel
theorem dX7_areMeasures_26 : decode cX7_areMeasures 26 = .ok (.ifCond .eq 17, 3) := by decide +kernel
theorem dX7_areMeasures_29 : decode cX7_areMeasures 29 = .ok (.iload_n 1, 1) := by decide +kernel
theorem dX7_areMeasures_30 : decode cX7_areMeasures 30 = .ok (.iconst 1, 1) := by decide +kernel
theorem dX7_areMeasures_31 : decode cX7_areMeasures 31 = .ok (.bipush 6, 2) := by decide +kernel
theorem dX7_areMeasures_33 : decode cX7_areMeasures 33 = .ok (.invokestatic 64, 3) := by decide +kernel
theorem dX7_areMeasures_36 : decode cX7_areMeasures 36 = .ok (.ifCond .eq 7, 3) := by decide +kernel
theorem dX7_areMeasures_39 : decode cX7_areMeasures 39 = .ok (.iconst 1, 1) := by decide +kernel
theorem dX7_areMeasures_40 : decode cX7_areMeasures 40 = .ok (.goto 4, 3) := by decide +kernel
theorem dX7_areMeasures_43 : decode cX7_areMeasures 43 = .ok (.iconst 0, 1) := by decide +kernel
theorem dX7_areMeasures_44 : decode cX7_areMeasures 44 = .ok (.ireturn, 1) := by decide +kernel
def f_X7_areMeasures (N : Nat) (x0 : Int32) (x1 : Int32) (x2 : Int32) (M : Mem) : Option (Int32) := bd (f_X7_within N x2 (0 : Int32) (1 : Int32) M) (fun v1 => jn (fun (a43 : Unit) => some (0 : Int32)) (fun (k43 : Unit → Option (Int32)) => if v1 = 0 then (k43 ()) else (jn (fun (a23 : Int32) => bd (f_X7_within N x0 (1 : Int32) a23 M) (fun v3 => if v3 = 0 then (k43 ()) else (bd (f_X7_within N x1 (1 : Int32) (6 : Int32) M) (fun v5 => if v5 = 0 then (k43 ()) else (some (1 : Int32)))))) (fun (k23 : Int32 → Option (Int32)) => if x2 = (1 : Int32) then (k23 (16 : Int32)) else (k23 (40 : Int32))))))
set_option maxRecDepth 100000 in
set_option maxHeartbeats 4000000 in
theorem c_X7_areMeasures {l : Launch} {D : va_G} {ac : Nat → ClassId} {A : Nat → Prop} {ad : Nat → Nat} {rest : va_W} (N : Nat) (x0 : Int32) (x1 : Int32) (x2 : Int32)  (M : Mem) (r0 : Int32) (hf : f_X7_areMeasures N x0 x1 x2 M = some r0) : CtI l D ac A tabX ad rest yX7_areMeasures cX7_areMeasures 3 .boolean 2 [.int x0, .int x1, .int x2] M r0 M := by
  refine ct_ofI (own := RX7) (by decide +kernel) rfl (Nat.le_of_ble_eq_true rfl) ?_
  intro p e s m args below meth c C
  unfold f_X7_areMeasures at hf
  refine a_L (L' := [(0, .int x0), (1, .int x1), (2, .int x2)]) rfl ?_
  refine a_iload_n (pc := 0) C dX7_areMeasures_0 2 rfl ?_
  refine a_iconst (pc := 1) (v := 0) C dX7_areMeasures_1 (by decide) ?_
  refine a_iconst (pc := 2) (v := 1) C dX7_areMeasures_2 (by decide) ?_
  refine a_callS_Ir (pc := 3) (d' := 1) C dX7_areMeasures_3 ml_X7_64 mc_X7_within ms_X7_within [.int x2, .int (0 : Int32), .int (1 : Int32)] rfl (Nat.le_of_ble_eq_true rfl) (Nat.le_of_ble_eq_true rfl) rfl (Nat.le_of_ble_eq_true rfl) (fun r h => c_X7_within N x2 (0 : Int32) (1 : Int32)  _  r h) hf (fun v1 hf => ?_)
  refine a_jn 43 (fun a43 : Unit => []) (fun a43 : Unit => []) (fun a43 : Unit => M) hf (fun a43 hf => ?_) (fun k43 hk43 hf => ?_)
  · refine a_iconst (pc := 43) (v := 0) C dX7_areMeasures_43 (by decide) ?_
    exact a_zret (pc := 44) C dX7_areMeasures_44 (Or.inl rfl) (Option.some.inj hf) rfl
  · refine a_if_eq (pc := 6) 43 C dX7_areMeasures_6 (by decide) hf (fun hf => ?_) (fun hf => ?_)
    · exact a_sub [] rfl (hk43 () hf)
    · refine a_iload_n (pc := 9) C dX7_areMeasures_9 0 rfl ?_
      refine a_iconst (pc := 10) (v := 1) C dX7_areMeasures_10 (by decide) ?_
      refine a_iload_n (pc := 11) C dX7_areMeasures_11 2 rfl ?_
      refine a_iconst (pc := 12) (v := 1) C dX7_areMeasures_12 (by decide) ?_
      refine a_jn 23 (fun a23 : Int32 => [(1, .int x1)]) (fun a23 : Int32 => [.int a23, .int (1 : Int32), .int x0]) (fun a23 : Int32 => M) hf (fun a23 hf => ?_) (fun k23 hk23 hf => ?_)
      · refine a_callS_Ir (pc := 23) (d' := 1) C dX7_areMeasures_23 ml_X7_64 mc_X7_within ms_X7_within [.int x0, .int (1 : Int32), .int a23] rfl (Nat.le_of_ble_eq_true rfl) (Nat.le_of_ble_eq_true rfl) rfl (Nat.le_of_ble_eq_true rfl) (fun r h => c_X7_within N x0 (1 : Int32) a23  _  r h) hf (fun v3 hf => ?_)
        refine a_if_eq (pc := 26) 43 C dX7_areMeasures_26 (by decide) hf (fun hf => ?_) (fun hf => ?_)
        · exact a_sub [] rfl (hk43 () hf)
        · refine a_iload_n (pc := 29) C dX7_areMeasures_29 0 rfl ?_
          refine a_iconst (pc := 30) (v := 1) C dX7_areMeasures_30 (by decide) ?_
          refine a_bipush (pc := 31) (v := 6) C dX7_areMeasures_31 (by decide) ?_
          refine a_callS_Ir (pc := 33) (d' := 1) C dX7_areMeasures_33 ml_X7_64 mc_X7_within ms_X7_within [.int x1, .int (1 : Int32), .int (6 : Int32)] rfl (Nat.le_of_ble_eq_true rfl) (Nat.le_of_ble_eq_true rfl) rfl (Nat.le_of_ble_eq_true rfl) (fun r h => c_X7_within N x1 (1 : Int32) (6 : Int32)  _  r h) hf (fun v5 hf => ?_)
          refine a_if_eq (pc := 36) 43 C dX7_areMeasures_36 (by decide) hf (fun hf => ?_) (fun hf => ?_)
          · exact a_sub [] rfl (hk43 () hf)
          · refine a_iconst (pc := 39) (v := 1) C dX7_areMeasures_39 (by decide) ?_
            refine a_goto (pc := 40) 44 C dX7_areMeasures_40 (by decide) ?_
            exact a_zret (pc := 44) C dX7_areMeasures_44 (Or.inr rfl) (Option.some.inj hf) rfl
      · refine a_icmp_ne (pc := 13) 21 C dX7_areMeasures_13 (by decide) hf (fun hf => ?_) (fun hf => ?_)
        · refine a_bipush (pc := 21) (v := 40) C dX7_areMeasures_21 (by decide) ?_
          exact a_sub [1] rfl (hk23 (40 : Int32) hf)
        · refine a_bipush (pc := 16) (v := 16) C dX7_areMeasures_16 (by decide) ?_
          refine a_goto (pc := 18) 23 C dX7_areMeasures_18 (by decide) ?_
          exact a_sub [1] rfl (hk23 (16 : Int32) hf)
theorem dX7_areApart_0 : decode cX7_areApart 0 = .ok (.lload_n 0, 1) := by decide +kernel
theorem dX7_areApart_1 : decode cX7_areApart 1 = .ok (.lload_n 2, 1) := by decide +kernel
theorem dX7_areApart_2 : decode cX7_areApart 2 = .ok (.lsub, 1) := by decide +kernel
theorem dX7_areApart_3 : decode cX7_areApart 3 = .ok (.invokestatic 355, 3) := by decide +kernel
theorem dX7_areApart_6 : decode cX7_areApart 6 = .ok (.lstore 6, 2) := by decide +kernel
theorem dX7_areApart_8 : decode cX7_areApart 8 = .ok (.lload 6, 2) := by decide +kernel
theorem dX7_areApart_10 : decode cX7_areApart 10 = .ok (.iload 5, 2) := by decide +kernel
theorem dX7_areApart_12 : decode cX7_areApart 12 = .ok (.i2l, 1) := by decide +kernel
theorem dX7_areApart_13 : decode cX7_areApart 13 = .ok (.lcmp, 1) := by decide +kernel
theorem dX7_areApart_14 : decode cX7_areApart 14 = .ok (.ifCond .lt 20, 3) := by decide +kernel
theorem dX7_areApart_17 : decode cX7_areApart 17 = .ok (.iload 4, 2) := by decide +kernel
theorem dX7_areApart_19 : decode cX7_areApart 19 = .ok (.i2l, 1) := by decide +kernel
theorem dX7_areApart_20 : decode cX7_areApart 20 = .ok (.lload 6, 2) := by decide +kernel
theorem dX7_areApart_22 : decode cX7_areApart 22 = .ok (.lsub, 1) := by decide +kernel
theorem dX7_areApart_23 : decode cX7_areApart 23 = .ok (.iload 5, 2) := by decide +kernel
theorem dX7_areApart_25 : decode cX7_areApart 25 = .ok (.i2l, 1) := by decide +kernel
theorem dX7_areApart_26 : decode cX7_areApart 26 = .ok (.lcmp, 1) := by decide +kernel
theorem dX7_areApart_27 : decode cX7_areApart 27 = .ok (.ifCond .lt 7, 3) := by decide +kernel
theorem dX7_areApart_30 : decode cX7_areApart 30 = .ok (.iconst 1, 1) := by decide +kernel
theorem dX7_areApart_31 : decode cX7_areApart 31 = .ok (.goto 4, 3) := by decide +kernel
theorem dX7_areApart_34 : decode cX7_areApart 34 = .ok (.iconst 0, 1) := by decide +kernel
theorem dX7_areApart_35 : decode cX7_areApart 35 = .ok (.ireturn, 1) := by decide +kernel
def f_X7_areApart (N : Nat) (x0 : Int64) (x2 : Int64) (x4 : Int32) (x5 : Int32) (M : Mem) : Option (Int32) := bd (f_J9_abs_067f4 N (x0 - x2) M) (fun v1 => jn (fun (a34 : Unit) => some (0 : Int32)) (fun (k34 : Unit → Option (Int32)) => if (lg_cmp v1 x5.toInt64) < 0 then (k34 ()) else (if (lg_cmp (x4.toInt64 - v1) x5.toInt64) < 0 then (k34 ()) else (some (1 : Int32)))))
set_option maxRecDepth 100000 in
set_option maxHeartbeats 4000000 in
theorem c_X7_areApart {l : Launch} {D : va_G} {ac : Nat → ClassId} {A : Nat → Prop} {ad : Nat → Nat} {rest : va_W} (N : Nat) (x0 : Int64) (x2 : Int64) (x4 : Int32) (x5 : Int32)  (M : Mem) (r0 : Int32) (hf : f_X7_areApart N x0 x2 x4 x5 M = some r0) : CtI l D ac A tabX ad rest yX7_areApart cX7_areApart 8 .boolean 2 [.long x0, .long x2, .int x4, .int x5] M r0 M := by
  refine ct_ofI (own := RX7) (by decide +kernel) rfl (Nat.le_of_ble_eq_true rfl) ?_
  intro p e s m args below meth c C
  unfold f_X7_areApart at hf
  refine a_L (L' := [(0, .long x0), (2, .long x2), (4, .int x4), (5, .int x5)]) rfl ?_
  refine a_lload_n (pc := 0) C dX7_areApart_0 0 rfl ?_
  refine a_lload_n (pc := 1) C dX7_areApart_1 1 rfl ?_
  refine a_lsub (pc := 2) C dX7_areApart_2 ?_
  refine a_callS_Jr (pc := 3) (d' := 1) C dX7_areApart_3 ml_X7_355 mc_J9_abs_067f4 ms_J9_abs_067f4 [.long (x0 - x2)] rfl (Nat.le_of_ble_eq_true rfl) (Nat.le_of_ble_eq_true rfl) rfl (Nat.le_of_ble_eq_true rfl) (fun r h => c_J9_abs_067f4 N (x0 - x2)  _  r h) hf (fun v1 hf => ?_)
  refine a_lstore (pc := 6) [(6, .long v1), (0, .long x0), (2, .long x2), (4, .int x4), (5, .int x5)] C dX7_areApart_6 (by decide) rfl ?_
  refine a_lload (pc := 8) C dX7_areApart_8 0 rfl ?_
  refine a_iload (pc := 10) C dX7_areApart_10 4 rfl ?_
  refine a_i2l (pc := 12) C dX7_areApart_12 ?_
  refine a_lcmp (pc := 13) C dX7_areApart_13 ?_
  refine a_jn 34 (fun a34 : Unit => []) (fun a34 : Unit => []) (fun a34 : Unit => M) hf (fun a34 hf => ?_) (fun k34 hk34 hf => ?_)
  · refine a_iconst (pc := 34) (v := 0) C dX7_areApart_34 (by decide) ?_
    exact a_zret (pc := 35) C dX7_areApart_35 (Or.inl rfl) (Option.some.inj hf) rfl
  · refine a_if_lt (pc := 14) 34 C dX7_areApart_14 (by decide) hf (fun hf => ?_) (fun hf => ?_)
    · exact a_sub [] rfl (hk34 () hf)
    · refine a_iload (pc := 17) C dX7_areApart_17 3 rfl ?_
      refine a_i2l (pc := 19) C dX7_areApart_19 ?_
      refine a_lload (pc := 20) C dX7_areApart_20 0 rfl ?_
      refine a_lsub (pc := 22) C dX7_areApart_22 ?_
      refine a_iload (pc := 23) C dX7_areApart_23 4 rfl ?_
      refine a_i2l (pc := 25) C dX7_areApart_25 ?_
      refine a_lcmp (pc := 26) C dX7_areApart_26 ?_
      refine a_if_lt (pc := 27) 34 C dX7_areApart_27 (by decide) hf (fun hf => ?_) (fun hf => ?_)
      · exact a_sub [] rfl (hk34 () hf)
      · refine a_iconst (pc := 30) (v := 1) C dX7_areApart_30 (by decide) ?_
        refine a_goto (pc := 31) 35 C dX7_areApart_31 (by decide) ?_
        exact a_zret (pc := 35) C dX7_areApart_35 (Or.inr rfl) (Option.some.inj hf) rfl
theorem dX7_order_0 : decode cX7_order 0 = .ok (.aload_n 0, 1) := by decide +kernel
theorem dX7_order_1 : decode cX7_order 1 = .ok (.getfield 282, 3) := by decide +kernel
theorem dX7_order_4 : decode cX7_order 4 = .ok (.lstore_n 2, 1) := by decide +kernel
theorem dX7_order_5 : decode cX7_order 5 = .ok (.aload_n 0, 1) := by decide +kernel
theorem dX7_order_6 : decode cX7_order 6 = .ok (.getfield 307, 3) := by decide +kernel
theorem dX7_order_9 : decode cX7_order 9 = .ok (.lstore 4, 2) := by decide +kernel
theorem dX7_order_11 : decode cX7_order 11 = .ok (.aload_n 1, 1) := by decide +kernel
theorem dX7_order_12 : decode cX7_order 12 = .ok (.getfield 282, 3) := by decide +kernel
theorem dX7_order_15 : decode cX7_order 15 = .ok (.lstore 6, 2) := by decide +kernel
theorem dX7_order_17 : decode cX7_order 17 = .ok (.aload_n 1, 1) := by decide +kernel
theorem dX7_order_18 : decode cX7_order 18 = .ok (.getfield 307, 3) := by decide +kernel
theorem dX7_order_21 : decode cX7_order 21 = .ok (.lstore 8, 2) := by decide +kernel
theorem dX7_order_23 : decode cX7_order 23 = .ok (.iconst 1, 1) := by decide +kernel
theorem dX7_order_24 : decode cX7_order 24 = .ok (.istore 10, 2) := by decide +kernel
theorem dX7_order_26 : decode cX7_order 26 = .ok (.iconst 0, 1) := by decide +kernel
theorem dX7_order_27 : decode cX7_order 27 = .ok (.istore 11, 2) := by decide +kernel
theorem dX7_order_29 : decode cX7_order 29 = .ok (.lload 4, 2) := by decide +kernel
theorem dX7_order_31 : decode cX7_order 31 = .ok (.lconst 0, 1) := by decide +kernel
theorem dX7_order_32 : decode cX7_order 32 = .ok (.lcmp, 1) := by decide +kernel
theorem dX7_order_33 : decode cX7_order 33 = .ok (.ifCond .le 128, 3) := by decide +kernel
theorem dX7_order_36 : decode cX7_order 36 = .ok (.lload 8, 2) := by decide +kernel
theorem dX7_order_38 : decode cX7_order 38 = .ok (.lconst 0, 1) := by decide +kernel
theorem dX7_order_39 : decode cX7_order 39 = .ok (.lcmp, 1) := by decide +kernel
theorem dX7_order_40 : decode cX7_order 40 = .ok (.ifCond .le 121, 3) := by decide +kernel
theorem dX7_order_43 : decode cX7_order 43 = .ok (.iload 11, 2) := by decide +kernel
theorem dX7_order_45 : decode cX7_order 45 = .ok (.sipush 200, 3) := by decide +kernel
theorem dX7_order_48 : decode cX7_order 48 = .ok (.if_icmp .ge 113, 3) := by decide +kernel
theorem dX7_order_51 : decode cX7_order 51 = .ok (.lload_n 2, 1) := by decide +kernel
theorem dX7_order_52 : decode cX7_order 52 = .ok (.lload 4, 2) := by decide +kernel
theorem dX7_order_54 : decode cX7_order 54 = .ok (.invokestatic 361, 3) := by decide +kernel
theorem dX7_order_57 : decode cX7_order 57 = .ok (.lstore 12, 2) := by decide +kernel
theorem dX7_order_59 : decode cX7_order 59 = .ok (.lload 6, 2) := by decide +kernel
theorem dX7_order_61 : decode cX7_order 61 = .ok (.lload 8, 2) := by decide +kernel
theorem dX7_order_63 : decode cX7_order 63 = .ok (.invokestatic 361, 3) := by decide +kernel
theorem dX7_order_66 : decode cX7_order 66 = .ok (.lstore 14, 2) := by decide +kernel
theorem dX7_order_68 : decode cX7_order 68 = .ok (.lload 12, 2) := by decide +kernel
theorem dX7_order_70 : decode cX7_order 70 = .ok (.lload 14, 2) := by decide +kernel
theorem dX7_order_72 : decode cX7_order 72 = .ok (.lcmp, 1) := by decide +kernel
theorem dX7_order_73 : decode cX7_order 73 = .ok (.ifCond .eq 20, 3) := by decide +kernel
theorem dX7_order_76 : decode cX7_order 76 = .ok (.lload 12, 2) := by decide +kernel
theorem dX7_order_78 : decode cX7_order 78 = .ok (.lload 14, 2) := by decide +kernel
theorem dX7_order_80 : decode cX7_order 80 = .ok (.lcmp, 1) := by decide +kernel
theorem dX7_order_81 : decode cX7_order 81 = .ok (.ifCond .ge 9, 3) := by decide +kernel
theorem dX7_order_84 : decode cX7_order 84 = .ok (.iload 10, 2) := by decide +kernel
theorem dX7_order_86 : decode cX7_order 86 = .ok (.ineg, 1) := by decide +kernel
theorem dX7_order_87 : decode cX7_order 87 = .ok (.goto 5, 3) := by decide +kernel
theorem dX7_order_90 : decode cX7_order 90 = .ok (.iload 10, 2) := by decide +kernel
theorem dX7_order_92 : decode cX7_order 92 = .ok (.ireturn, 1) := by decide +kernel
theorem dX7_order_93 : decode cX7_order 93 = .ok (.lload_n 2, 1) := by decide +kernel
theorem dX7_order_94 : decode cX7_order 94 = .ok (.lload 4, 2) := by decide +kernel
theorem dX7_order_96 : decode cX7_order 96 = .ok (.invokestatic 364, 3) := by decide +kernel
theorem dX7_order_99 : decode cX7_order 99 = .ok (.lstore 16, 2) := by decide +kernel
theorem dX7_order_101 : decode cX7_order 101 = .ok (.lload 6, 2) := by decide +kernel
theorem dX7_order_103 : decode cX7_order 103 = .ok (.lload 8, 2) := by decide +kernel
theorem dX7_order_105 : decode cX7_order 105 = .ok (.invokestatic 364, 3) := by decide +kernel
theorem dX7_order_108 : decode cX7_order 108 = .ok (.lstore 18, 2) := by decide +kernel
theorem dX7_order_110 : decode cX7_order 110 = .ok (.lload 16, 2) := by decide +kernel
theorem dX7_order_112 : decode cX7_order 112 = .ok (.lconst 0, 1) := by decide +kernel
theorem dX7_order_113 : decode cX7_order 113 = .ok (.lcmp, 1) := by decide +kernel
theorem dX7_order_114 : decode cX7_order 114 = .ok (.ifCond .eq 10, 3) := by decide +kernel
theorem dX7_order_117 : decode cX7_order 117 = .ok (.lload 18, 2) := by decide +kernel
theorem dX7_order_119 : decode cX7_order 119 = .ok (.lconst 0, 1) := by decide +kernel
theorem dX7_order_120 : decode cX7_order 120 = .ok (.lcmp, 1) := by decide +kernel
theorem dX7_order_121 : decode cX7_order 121 = .ok (.ifCond .ne 14, 3) := by decide +kernel
theorem dX7_order_124 : decode cX7_order 124 = .ok (.iload 10, 2) := by decide +kernel
theorem dX7_order_126 : decode cX7_order 126 = .ok (.lload 16, 2) := by decide +kernel
theorem dX7_order_128 : decode cX7_order 128 = .ok (.lload 18, 2) := by decide +kernel
theorem dX7_order_130 : decode cX7_order 130 = .ok (.invokestatic 367, 3) := by decide +kernel
theorem dX7_order_133 : decode cX7_order 133 = .ok (.imul, 1) := by decide +kernel
theorem dX7_order_134 : decode cX7_order 134 = .ok (.ireturn, 1) := by decide +kernel
theorem dX7_order_135 : decode cX7_order 135 = .ok (.lload 4, 2) := by decide +kernel
theorem dX7_order_137 : decode cX7_order 137 = .ok (.lstore_n 2, 1) := by decide +kernel
theorem dX7_order_138 : decode cX7_order 138 = .ok (.lload 16, 2) := by decide +kernel
theorem dX7_order_140 : decode cX7_order 140 = .ok (.lstore 4, 2) := by decide +kernel
theorem dX7_order_142 : decode cX7_order 142 = .ok (.lload 8, 2) := by decide +kernel
theorem dX7_order_144 : decode cX7_order 144 = .ok (.lstore 6, 2) := by decide +kernel
theorem dX7_order_146 : decode cX7_order 146 = .ok (.lload 18, 2) := by decide +kernel
theorem dX7_order_148 : decode cX7_order 148 = .ok (.lstore 8, 2) := by decide +kernel
theorem dX7_order_150 : decode cX7_order 150 = .ok (.iload 10, 2) := by decide +kernel
theorem dX7_order_152 : decode cX7_order 152 = .ok (.ineg, 1) := by decide +kernel
theorem dX7_order_153 : decode cX7_order 153 = .ok (.istore 10, 2) := by decide +kernel
theorem dX7_order_155 : decode cX7_order 155 = .ok (.iinc 11 1, 3) := by decide +kernel
theorem dX7_order_158 : decode cX7_order 158 = .ok (.goto (-129), 3) := by decide +kernel
theorem dX7_order_161 : decode cX7_order 161 = .ok (.iconst 0, 1) := by decide +kernel
theorem dX7_order_162 : decode cX7_order 162 = .ok (.ireturn, 1) := by decide +kernel
def f_X7_order (N : Nat) (c0 : Nat) (c1 : Nat) (M : Mem) : Option (Int32) := nm (M.2 c0 1) (fun v1 => nm (M.2 c0 2) (fun v2 => nm (M.2 c1 1) (fun v3 => nm (M.2 c1 2) (fun v4 => lp (fun (k29 : (Int64 × Int64 × Int64 × Int64 × Int32 × Int32) → Option (Int32)) (a29 : Int64 × Int64 × Int64 × Int64 × Int32 × Int32) => if (lg_cmp a29.2.1 (0 : Int64)) ≤ 0 then (some (0 : Int32)) else (if (lg_cmp a29.2.2.2.1 (0 : Int64)) ≤ 0 then (some (0 : Int32)) else (if (200 : Int32) ≤ a29.2.2.2.2.2 then (some (0 : Int32)) else (bd (f_J9_floorDiv_f86c9 N a29.1 a29.2.1 M) (fun v5 => bd (f_J9_floorDiv_f86c9 N a29.2.2.1 a29.2.2.2.1 M) (fun v7 => if (lg_cmp v5 v7) = 0 then (bd (f_J9_floorMod_f86c9 N a29.1 a29.2.1 M) (fun v9 => bd (f_J9_floorMod_f86c9 N a29.2.2.1 a29.2.2.2.1 M) (fun v11 => jn (fun (a124 : Unit) => bd (f_J13_compare_74951 N v9 v11 M) (fun v13 => some (a29.2.2.2.2.1 * v13))) (fun (k124 : Unit → Option (Int32)) => if (lg_cmp v9 (0 : Int64)) = 0 then (k124 ()) else (if (lg_cmp v11 (0 : Int64)) = 0 then (k124 ()) else (nm (-a29.2.2.2.2.1) (fun v15 => nm (a29.2.2.2.2.2 + (1 : Int32)) (fun v16 => k29 (a29.2.1, v9, a29.2.2.2.1, v11, v15, v16))))))))) else (if 0 ≤ (lg_cmp v5 v7) then (some a29.2.2.2.2.1) else (some (-a29.2.2.2.2.1))))))))) N (v1, v2, v3, v4, (1 : Int32), (0 : Int32))))))
set_option maxRecDepth 100000 in
set_option maxHeartbeats 4000000 in
theorem c_X7_order {l : Launch} {D : va_G} {ac : Nat → ClassId} {A : Nat → Prop} {ad : Nat → Nat} {rest : va_W} (N : Nat) (c0 : Nat) (c1 : Nat) (hc0 : HoldAt tabX c0) (hc1 : HoldAt tabX c1) (M : Mem) (r0 : Int32) (hf : f_X7_order N c0 c1 M = some r0) : CtI l D ac A tabX ad rest yX7_order cX7_order 20 .int 2 [.ref (ad c0), .ref (ad c1)] M r0 M := by
  refine ct_ofI (own := RX7) (by decide +kernel) rfl (Nat.le_of_ble_eq_true rfl) ?_
  intro p e s m args below meth c C
  unfold f_X7_order at hf
  refine a_L (L' := [(0, .ref (ad c0)), (1, .ref (ad c1))]) rfl ?_
  refine a_aload_n (pc := 0) C dX7_order_0 0 rfl ?_
  refine a_getJ (pc := 1) C dX7_order_1 fl_X7_282 hc0 rfl ?_
  refine a_nml hf (fun v1 hf => ?_)
  refine a_lstore_n (pc := 4) [(2, .long v1), (0, .ref (ad c0)), (1, .ref (ad c1))] C dX7_order_4 (by decide) rfl ?_
  refine a_aload_n (pc := 5) C dX7_order_5 1 rfl ?_
  refine a_getJ (pc := 6) C dX7_order_6 fl_X7_307 hc0 rfl ?_
  refine a_nml hf (fun v2 hf => ?_)
  refine a_lstore (pc := 9) [(4, .long v2), (2, .long v1), (0, .ref (ad c0)), (1, .ref (ad c1))] C dX7_order_9 (by decide) rfl ?_
  refine a_aload_n (pc := 11) C dX7_order_11 3 rfl ?_
  refine a_getJ (pc := 12) C dX7_order_12 fl_X7_282 hc1 rfl ?_
  refine a_nml hf (fun v3 hf => ?_)
  refine a_lstore (pc := 15) [(6, .long v3), (4, .long v2), (2, .long v1), (0, .ref (ad c0)), (1, .ref (ad c1))] C dX7_order_15 (by decide) rfl ?_
  refine a_aload_n (pc := 17) C dX7_order_17 4 rfl ?_
  refine a_getJ (pc := 18) C dX7_order_18 fl_X7_307 hc1 rfl ?_
  refine a_nml hf (fun v4 hf => ?_)
  refine a_lstore (pc := 21) [(8, .long v4), (6, .long v3), (4, .long v2), (2, .long v1), (0, .ref (ad c0)), (1, .ref (ad c1))] C dX7_order_21 (by decide) rfl ?_
  refine a_iconst (pc := 23) (v := 1) C dX7_order_23 (by decide) ?_
  refine a_istore (pc := 24) [(10, .int (1 : Int32)), (8, .long v4), (6, .long v3), (4, .long v2), (2, .long v1), (0, .ref (ad c0)), (1, .ref (ad c1))] C dX7_order_24 (by decide) rfl ?_
  refine a_iconst (pc := 26) (v := 0) C dX7_order_26 (by decide) ?_
  refine a_istore (pc := 27) [(11, .int (0 : Int32)), (10, .int (1 : Int32)), (8, .long v4), (6, .long v3), (4, .long v2), (2, .long v1), (0, .ref (ad c0)), (1, .ref (ad c1))] C dX7_order_27 (by decide) rfl ?_
  refine a_sub [5, 4, 3, 2, 1, 0] rfl ?_
  refine a_lp 29 (fun a29 : Int64 × Int64 × Int64 × Int64 × Int32 × Int32 => [(2, .long a29.1), (4, .long a29.2.1), (6, .long a29.2.2.1), (8, .long a29.2.2.2.1), (10, .int a29.2.2.2.2.1), (11, .int a29.2.2.2.2.2)]) (fun a29 : Int64 × Int64 × Int64 × Int64 × Int32 × Int32 => []) (fun a29 : Int64 × Int64 × Int64 × Int64 × Int32 × Int32 => M) (fun k29 a29 hk29 hf => ?_) N (v1, v2, v3, v4, (1 : Int32), (0 : Int32)) hf
  refine a_lload (pc := 29) C dX7_order_29 1 rfl ?_
  refine a_lconst (pc := 31) (v := 0) C dX7_order_31 (by decide) ?_
  refine a_lcmp (pc := 32) C dX7_order_32 ?_
  refine a_if_le (pc := 33) 161 C dX7_order_33 (by decide) hf (fun hf => ?_) (fun hf => ?_)
  · refine a_iconst (pc := 161) (v := 0) C dX7_order_161 (by decide) ?_
    exact a_iret (pc := 162) C dX7_order_162 (Option.some.inj hf) rfl
  · refine a_lload (pc := 36) C dX7_order_36 3 rfl ?_
    refine a_lconst (pc := 38) (v := 0) C dX7_order_38 (by decide) ?_
    refine a_lcmp (pc := 39) C dX7_order_39 ?_
    refine a_if_le (pc := 40) 161 C dX7_order_40 (by decide) hf (fun hf => ?_) (fun hf => ?_)
    · refine a_iconst (pc := 161) (v := 0) C dX7_order_161 (by decide) ?_
      exact a_iret (pc := 162) C dX7_order_162 (Option.some.inj hf) rfl
    · refine a_iload (pc := 43) C dX7_order_43 5 rfl ?_
      refine a_sipush (pc := 45) (v := 200) C dX7_order_45 (by decide) ?_
      refine a_icmp_ge (pc := 48) 161 C dX7_order_48 (by decide) hf (fun hf => ?_) (fun hf => ?_)
      · refine a_iconst (pc := 161) (v := 0) C dX7_order_161 (by decide) ?_
        exact a_iret (pc := 162) C dX7_order_162 (Option.some.inj hf) rfl
      · refine a_lload_n (pc := 51) C dX7_order_51 0 rfl ?_
        refine a_lload (pc := 52) C dX7_order_52 1 rfl ?_
        refine a_callS_Jr (pc := 54) (d' := 1) C dX7_order_54 ml_X7_361 mc_J9_floorDiv_f86c9 ms_J9_floorDiv_f86c9 [.long a29.1, .long a29.2.1] rfl (Nat.le_of_ble_eq_true rfl) (Nat.le_of_ble_eq_true rfl) rfl (Nat.le_of_ble_eq_true rfl) (fun r h => c_J9_floorDiv_f86c9 N a29.1 a29.2.1  _  r h) hf (fun v5 hf => ?_)
        refine a_lstore (pc := 57) [(12, .long v5), (2, .long a29.1), (4, .long a29.2.1), (6, .long a29.2.2.1), (8, .long a29.2.2.2.1), (10, .int a29.2.2.2.2.1), (11, .int a29.2.2.2.2.2)] C dX7_order_57 (by decide) rfl ?_
        refine a_lload (pc := 59) C dX7_order_59 3 rfl ?_
        refine a_lload (pc := 61) C dX7_order_61 4 rfl ?_
        refine a_callS_Jr (pc := 63) (d' := 1) C dX7_order_63 ml_X7_361 mc_J9_floorDiv_f86c9 ms_J9_floorDiv_f86c9 [.long a29.2.2.1, .long a29.2.2.2.1] rfl (Nat.le_of_ble_eq_true rfl) (Nat.le_of_ble_eq_true rfl) rfl (Nat.le_of_ble_eq_true rfl) (fun r h => c_J9_floorDiv_f86c9 N a29.2.2.1 a29.2.2.2.1  _  r h) hf (fun v7 hf => ?_)
        refine a_lstore (pc := 66) [(14, .long v7), (12, .long v5), (2, .long a29.1), (4, .long a29.2.1), (6, .long a29.2.2.1), (8, .long a29.2.2.2.1), (10, .int a29.2.2.2.2.1), (11, .int a29.2.2.2.2.2)] C dX7_order_66 (by decide) rfl ?_
        refine a_lload (pc := 68) C dX7_order_68 1 rfl ?_
        refine a_lload (pc := 70) C dX7_order_70 0 rfl ?_
        refine a_lcmp (pc := 72) C dX7_order_72 ?_
        refine a_if_eq (pc := 73) 93 C dX7_order_73 (by decide) hf (fun hf => ?_) (fun hf => ?_)
        · refine a_lload_n (pc := 93) C dX7_order_93 2 rfl ?_
          refine a_lload (pc := 94) C dX7_order_94 3 rfl ?_
          refine a_callS_Jr (pc := 96) (d' := 1) C dX7_order_96 ml_X7_364 mc_J9_floorMod_f86c9 ms_J9_floorMod_f86c9 [.long a29.1, .long a29.2.1] rfl (Nat.le_of_ble_eq_true rfl) (Nat.le_of_ble_eq_true rfl) rfl (Nat.le_of_ble_eq_true rfl) (fun r h => c_J9_floorMod_f86c9 N a29.1 a29.2.1  _  r h) hf (fun v9 hf => ?_)
          refine a_lstore (pc := 99) [(16, .long v9), (14, .long v7), (12, .long v5), (2, .long a29.1), (4, .long a29.2.1), (6, .long a29.2.2.1), (8, .long a29.2.2.2.1), (10, .int a29.2.2.2.2.1), (11, .int a29.2.2.2.2.2)] C dX7_order_99 (by decide) rfl ?_
          refine a_lload (pc := 101) C dX7_order_101 5 rfl ?_
          refine a_lload (pc := 103) C dX7_order_103 6 rfl ?_
          refine a_callS_Jr (pc := 105) (d' := 1) C dX7_order_105 ml_X7_364 mc_J9_floorMod_f86c9 ms_J9_floorMod_f86c9 [.long a29.2.2.1, .long a29.2.2.2.1] rfl (Nat.le_of_ble_eq_true rfl) (Nat.le_of_ble_eq_true rfl) rfl (Nat.le_of_ble_eq_true rfl) (fun r h => c_J9_floorMod_f86c9 N a29.2.2.1 a29.2.2.2.1  _  r h) hf (fun v11 hf => ?_)
          refine a_lstore (pc := 108) [(18, .long v11), (16, .long v9), (14, .long v7), (12, .long v5), (2, .long a29.1), (4, .long a29.2.1), (6, .long a29.2.2.1), (8, .long a29.2.2.2.1), (10, .int a29.2.2.2.2.1), (11, .int a29.2.2.2.2.2)] C dX7_order_108 (by decide) rfl ?_
          refine a_lload (pc := 110) C dX7_order_110 1 rfl ?_
          refine a_lconst (pc := 112) (v := 0) C dX7_order_112 (by decide) ?_
          refine a_lcmp (pc := 113) C dX7_order_113 ?_
          refine a_jn 124 (fun a124 : Unit => [(10, .int a29.2.2.2.2.1), (16, .long v9), (18, .long v11)]) (fun a124 : Unit => []) (fun a124 : Unit => M) hf (fun a124 hf => ?_) (fun k124 hk124 hf => ?_)
          · refine a_iload (pc := 124) C dX7_order_124 0 rfl ?_
            refine a_lload (pc := 126) C dX7_order_126 1 rfl ?_
            refine a_lload (pc := 128) C dX7_order_128 2 rfl ?_
            refine a_callS_Ir (pc := 130) (d' := 1) C dX7_order_130 ml_X7_367 mc_J13_compare_74951 ms_J13_compare_74951 [.long v9, .long v11] rfl (Nat.le_of_ble_eq_true rfl) (Nat.le_of_ble_eq_true rfl) rfl (Nat.le_of_ble_eq_true rfl) (fun r h => c_J13_compare_74951 N v9 v11  _  r h) hf (fun v13 hf => ?_)
            refine a_imul (pc := 133) C dX7_order_133 ?_
            exact a_iret (pc := 134) C dX7_order_134 (Option.some.inj hf) rfl
          · refine a_if_eq (pc := 114) 124 C dX7_order_114 (by decide) hf (fun hf => ?_) (fun hf => ?_)
            · exact a_sub [8, 1, 0] rfl (hk124 () hf)
            · refine a_lload (pc := 117) C dX7_order_117 0 rfl ?_
              refine a_lconst (pc := 119) (v := 0) C dX7_order_119 (by decide) ?_
              refine a_lcmp (pc := 120) C dX7_order_120 ?_
              refine a_if_ne (pc := 121) 135 C dX7_order_121 (by decide) hf (fun hf => ?_) (fun hf => ?_)
              · refine a_lload (pc := 135) C dX7_order_135 5 rfl ?_
                refine a_lstore_n (pc := 137) [(2, .long a29.2.1), (18, .long v11), (16, .long v9), (14, .long v7), (12, .long v5), (4, .long a29.2.1), (6, .long a29.2.2.1), (8, .long a29.2.2.2.1), (10, .int a29.2.2.2.2.1), (11, .int a29.2.2.2.2.2)] C dX7_order_137 (by decide) rfl ?_
                refine a_lload (pc := 138) C dX7_order_138 2 rfl ?_
                refine a_lstore (pc := 140) [(4, .long v9), (2, .long a29.2.1), (18, .long v11), (16, .long v9), (14, .long v7), (12, .long v5), (6, .long a29.2.2.1), (8, .long a29.2.2.2.1), (10, .int a29.2.2.2.2.1), (11, .int a29.2.2.2.2.2)] C dX7_order_140 (by decide) rfl ?_
                refine a_lload (pc := 142) C dX7_order_142 7 rfl ?_
                refine a_lstore (pc := 144) [(6, .long a29.2.2.2.1), (4, .long v9), (2, .long a29.2.1), (18, .long v11), (16, .long v9), (14, .long v7), (12, .long v5), (8, .long a29.2.2.2.1), (10, .int a29.2.2.2.2.1), (11, .int a29.2.2.2.2.2)] C dX7_order_144 (by decide) rfl ?_
                refine a_lload (pc := 146) C dX7_order_146 3 rfl ?_
                refine a_lstore (pc := 148) [(8, .long v11), (6, .long a29.2.2.2.1), (4, .long v9), (2, .long a29.2.1), (18, .long v11), (16, .long v9), (14, .long v7), (12, .long v5), (10, .int a29.2.2.2.2.1), (11, .int a29.2.2.2.2.2)] C dX7_order_148 (by decide) rfl ?_
                refine a_iload (pc := 150) C dX7_order_150 8 rfl ?_
                refine a_ineg (pc := 152) C dX7_order_152 ?_
                refine a_nmi hf (fun v15 hf => ?_)
                refine a_istore (pc := 153) [(10, .int v15), (8, .long v11), (6, .long a29.2.2.2.1), (4, .long v9), (2, .long a29.2.1), (18, .long v11), (16, .long v9), (14, .long v7), (12, .long v5), (11, .int a29.2.2.2.2.2)] C dX7_order_153 (by decide) rfl ?_
                refine a_iinc (pc := 155) (v := 1) (fun v16 => [(11, .int v16), (10, .int v15), (8, .long v11), (6, .long a29.2.2.2.1), (4, .long v9), (2, .long a29.2.1), (18, .long v11), (16, .long v9), (14, .long v7), (12, .long v5)]) C dX7_order_155 9 rfl (by decide) (by decide) (fun _ => rfl) hf (fun v16 hf => ?_)
                refine a_goto (pc := 158) 29 C dX7_order_158 (by decide) ?_
                exact a_sub [5, 4, 3, 2, 1, 0] rfl (hk29 (a29.2.1, v9, a29.2.2.2.1, v11, v15, v16) hf)
              · exact a_sub [8, 1, 0] rfl (hk124 () hf)
        · refine a_lload (pc := 76) C dX7_order_76 1 rfl ?_
          refine a_lload (pc := 78) C dX7_order_78 0 rfl ?_
          refine a_lcmp (pc := 80) C dX7_order_80 ?_
          refine a_if_ge (pc := 81) 90 C dX7_order_81 (by decide) hf (fun hf => ?_) (fun hf => ?_)
          · refine a_iload (pc := 90) C dX7_order_90 6 rfl ?_
            exact a_iret (pc := 92) C dX7_order_92 (Option.some.inj hf) rfl
          · refine a_iload (pc := 84) C dX7_order_84 6 rfl ?_
            refine a_ineg (pc := 86) C dX7_order_86 ?_
            refine a_goto (pc := 87) 92 C dX7_order_87 (by decide) ?_
            exact a_iret (pc := 92) C dX7_order_92 (Option.some.inj hf) rfl
theorem dX7_neighbour_0 : decode cX7_neighbour 0 = .ok (.lconst 0, 1) := by decide +kernel
theorem dX7_neighbour_1 : decode cX7_neighbour 1 = .ok (.lstore 7, 2) := by decide +kernel
theorem dX7_neighbour_3 : decode cX7_neighbour 3 = .ok (.lconst 1, 1) := by decide +kernel
theorem dX7_neighbour_4 : decode cX7_neighbour 4 = .ok (.lstore 9, 2) := by decide +kernel
theorem dX7_neighbour_6 : decode cX7_neighbour 6 = .ok (.lconst 1, 1) := by decide +kernel
theorem dX7_neighbour_7 : decode cX7_neighbour 7 = .ok (.lstore 11, 2) := by decide +kernel
theorem dX7_neighbour_9 : decode cX7_neighbour 9 = .ok (.lconst 0, 1) := by decide +kernel
theorem dX7_neighbour_10 : decode cX7_neighbour 10 = .ok (.lstore 13, 2) := by decide +kernel
theorem dX7_neighbour_12 : decode cX7_neighbour 12 = .ok (.iconst 1, 1) := by decide +kernel
theorem dX7_neighbour_13 : decode cX7_neighbour 13 = .ok (.istore 15, 2) := by decide +kernel
theorem dX7_neighbour_15 : decode cX7_neighbour 15 = .ok (.iconst 0, 1) := by decide +kernel
theorem dX7_neighbour_16 : decode cX7_neighbour 16 = .ok (.istore 16, 2) := by decide +kernel
theorem dX7_neighbour_18 : decode cX7_neighbour 18 = .ok (.iload 15, 2) := by decide +kernel
theorem dX7_neighbour_20 : decode cX7_neighbour 20 = .ok (.ifCond .eq 192, 3) := by decide +kernel
theorem dX7_neighbour_23 : decode cX7_neighbour 23 = .ok (.iload 16, 2) := by decide +kernel
theorem dX7_neighbour_25 : decode cX7_neighbour 25 = .ok (.bipush 64, 2) := by decide +kernel
theorem dX7_neighbour_27 : decode cX7_neighbour 27 = .ok (.if_icmp .ge 185, 3) := by decide +kernel
theorem dX7_neighbour_30 : decode cX7_neighbour 30 = .ok (.lload_n 0, 1) := by decide +kernel
theorem dX7_neighbour_31 : decode cX7_neighbour 31 = .ok (.lload 9, 2) := by decide +kernel
theorem dX7_neighbour_33 : decode cX7_neighbour 33 = .ok (.lmul, 1) := by decide +kernel
theorem dX7_neighbour_34 : decode cX7_neighbour 34 = .ok (.lload_n 2, 1) := by decide +kernel
theorem dX7_neighbour_35 : decode cX7_neighbour 35 = .ok (.lload 7, 2) := by decide +kernel
theorem dX7_neighbour_37 : decode cX7_neighbour 37 = .ok (.lmul, 1) := by decide +kernel
theorem dX7_neighbour_38 : decode cX7_neighbour 38 = .ok (.lsub, 1) := by decide +kernel
theorem dX7_neighbour_39 : decode cX7_neighbour 39 = .ok (.lstore 17, 2) := by decide +kernel
theorem dX7_neighbour_41 : decode cX7_neighbour 41 = .ok (.lload_n 2, 1) := by decide +kernel
theorem dX7_neighbour_42 : decode cX7_neighbour 42 = .ok (.lload 11, 2) := by decide +kernel
theorem dX7_neighbour_44 : decode cX7_neighbour 44 = .ok (.lmul, 1) := by decide +kernel
theorem dX7_neighbour_45 : decode cX7_neighbour 45 = .ok (.lload_n 0, 1) := by decide +kernel
theorem dX7_neighbour_46 : decode cX7_neighbour 46 = .ok (.lload 13, 2) := by decide +kernel
theorem dX7_neighbour_48 : decode cX7_neighbour 48 = .ok (.lmul, 1) := by decide +kernel
theorem dX7_neighbour_49 : decode cX7_neighbour 49 = .ok (.lsub, 1) := by decide +kernel
theorem dX7_neighbour_50 : decode cX7_neighbour 50 = .ok (.lstore 19, 2) := by decide +kernel
theorem dX7_neighbour_52 : decode cX7_neighbour 52 = .ok (.lload 19, 2) := by decide +kernel
theorem dX7_neighbour_54 : decode cX7_neighbour 54 = .ok (.lconst 1, 1) := by decide +kernel
theorem dX7_neighbour_55 : decode cX7_neighbour 55 = .ok (.lcmp, 1) := by decide +kernel
theorem dX7_neighbour_56 : decode cX7_neighbour 56 = .ok (.ifCond .ge 7, 3) := by decide +kernel
theorem dX7_neighbour_59 : decode cX7_neighbour 59 = .ok (.lconst 0, 1) := by decide +kernel
theorem dX7_neighbour_60 : decode cX7_neighbour 60 = .ok (.goto 10, 3) := by decide +kernel
theorem dX7_neighbour_63 : decode cX7_neighbour 63 = .ok (.lload 17, 2) := by decide +kernel
theorem dX7_neighbour_65 : decode cX7_neighbour 65 = .ok (.lconst 1, 1) := by decide +kernel
theorem dX7_neighbour_66 : decode cX7_neighbour 66 = .ok (.lsub, 1) := by decide +kernel
theorem dX7_neighbour_67 : decode cX7_neighbour 67 = .ok (.lload 19, 2) := by decide +kernel
theorem dX7_neighbour_69 : decode cX7_neighbour 69 = .ok (.ldiv, 1) := by decide +kernel
theorem dX7_neighbour_70 : decode cX7_neighbour 70 = .ok (.lstore 21, 2) := by decide +kernel
theorem dX7_neighbour_72 : decode cX7_neighbour 72 = .ok (.lload 13, 2) := by decide +kernel
theorem dX7_neighbour_74 : decode cX7_neighbour 74 = .ok (.lconst 0, 1) := by decide +kernel
theorem dX7_neighbour_75 : decode cX7_neighbour 75 = .ok (.lcmp, 1) := by decide +kernel
theorem dX7_neighbour_76 : decode cX7_neighbour 76 = .ok (.ifCond .le 19, 3) := by decide +kernel
theorem dX7_neighbour_79 : decode cX7_neighbour 79 = .ok (.lload 21, 2) := by decide +kernel
theorem dX7_neighbour_81 : decode cX7_neighbour 81 = .ok (.iload 4, 2) := by decide +kernel
theorem dX7_neighbour_83 : decode cX7_neighbour 83 = .ok (.i2l, 1) := by decide +kernel
theorem dX7_neighbour_84 : decode cX7_neighbour 84 = .ok (.lload 9, 2) := by decide +kernel
theorem dX7_neighbour_86 : decode cX7_neighbour 86 = .ok (.lsub, 1) := by decide +kernel
theorem dX7_neighbour_87 : decode cX7_neighbour 87 = .ok (.lload 13, 2) := by decide +kernel
theorem dX7_neighbour_89 : decode cX7_neighbour 89 = .ok (.ldiv, 1) := by decide +kernel
theorem dX7_neighbour_90 : decode cX7_neighbour 90 = .ok (.invokestatic 372, 3) := by decide +kernel
theorem dX7_neighbour_93 : decode cX7_neighbour 93 = .ok (.lstore 21, 2) := by decide +kernel
theorem dX7_neighbour_95 : decode cX7_neighbour 95 = .ok (.lload 7, 2) := by decide +kernel
theorem dX7_neighbour_97 : decode cX7_neighbour 97 = .ok (.lload 21, 2) := by decide +kernel
theorem dX7_neighbour_99 : decode cX7_neighbour 99 = .ok (.lload 11, 2) := by decide +kernel
theorem dX7_neighbour_101 : decode cX7_neighbour 101 = .ok (.lmul, 1) := by decide +kernel
theorem dX7_neighbour_102 : decode cX7_neighbour 102 = .ok (.ladd, 1) := by decide +kernel
theorem dX7_neighbour_103 : decode cX7_neighbour 103 = .ok (.lstore 7, 2) := by decide +kernel
theorem dX7_neighbour_105 : decode cX7_neighbour 105 = .ok (.lload 9, 2) := by decide +kernel
theorem dX7_neighbour_107 : decode cX7_neighbour 107 = .ok (.lload 21, 2) := by decide +kernel
theorem dX7_neighbour_109 : decode cX7_neighbour 109 = .ok (.lload 13, 2) := by decide +kernel
theorem dX7_neighbour_111 : decode cX7_neighbour 111 = .ok (.lmul, 1) := by decide +kernel
theorem dX7_neighbour_112 : decode cX7_neighbour 112 = .ok (.ladd, 1) := by decide +kernel
theorem dX7_neighbour_113 : decode cX7_neighbour 113 = .ok (.lstore 9, 2) := by decide +kernel
theorem dX7_neighbour_115 : decode cX7_neighbour 115 = .ok (.lload_n 0, 1) := by decide +kernel
theorem dX7_neighbour_116 : decode cX7_neighbour 116 = .ok (.lload 9, 2) := by decide +kernel
theorem dX7_neighbour_118 : decode cX7_neighbour 118 = .ok (.lmul, 1) := by decide +kernel
theorem dX7_neighbour_119 : decode cX7_neighbour 119 = .ok (.lload_n 2, 1) := by decide +kernel
theorem dX7_neighbour_120 : decode cX7_neighbour 120 = .ok (.lload 7, 2) := by decide +kernel
theorem dX7_neighbour_122 : decode cX7_neighbour 122 = .ok (.lmul, 1) := by decide +kernel
theorem dX7_neighbour_123 : decode cX7_neighbour 123 = .ok (.lsub, 1) := by decide +kernel
theorem dX7_neighbour_124 : decode cX7_neighbour 124 = .ok (.lstore 17, 2) := by decide +kernel
theorem dX7_neighbour_126 : decode cX7_neighbour 126 = .ok (.lload 17, 2) := by decide +kernel
theorem dX7_neighbour_128 : decode cX7_neighbour 128 = .ok (.lconst 1, 1) := by decide +kernel
theorem dX7_neighbour_129 : decode cX7_neighbour 129 = .ok (.lcmp, 1) := by decide +kernel
theorem dX7_neighbour_130 : decode cX7_neighbour 130 = .ok (.ifCond .lt 10, 3) := by decide +kernel
theorem dX7_neighbour_133 : decode cX7_neighbour 133 = .ok (.lload 9, 2) := by decide +kernel
theorem dX7_neighbour_135 : decode cX7_neighbour 135 = .ok (.lconst 1, 1) := by decide +kernel
theorem dX7_neighbour_136 : decode cX7_neighbour 136 = .ok (.lcmp, 1) := by decide +kernel
theorem dX7_neighbour_137 : decode cX7_neighbour 137 = .ok (.ifCond .ge 7, 3) := by decide +kernel
theorem dX7_neighbour_140 : decode cX7_neighbour 140 = .ok (.lconst 0, 1) := by decide +kernel
theorem dX7_neighbour_141 : decode cX7_neighbour 141 = .ok (.goto 22, 3) := by decide +kernel
theorem dX7_neighbour_144 : decode cX7_neighbour 144 = .ok (.lload 19, 2) := by decide +kernel
theorem dX7_neighbour_146 : decode cX7_neighbour 146 = .ok (.lconst 1, 1) := by decide +kernel
theorem dX7_neighbour_147 : decode cX7_neighbour 147 = .ok (.lsub, 1) := by decide +kernel
theorem dX7_neighbour_148 : decode cX7_neighbour 148 = .ok (.lload 17, 2) := by decide +kernel
theorem dX7_neighbour_150 : decode cX7_neighbour 150 = .ok (.ldiv, 1) := by decide +kernel
theorem dX7_neighbour_151 : decode cX7_neighbour 151 = .ok (.iload 4, 2) := by decide +kernel
theorem dX7_neighbour_153 : decode cX7_neighbour 153 = .ok (.i2l, 1) := by decide +kernel
theorem dX7_neighbour_154 : decode cX7_neighbour 154 = .ok (.lload 13, 2) := by decide +kernel
theorem dX7_neighbour_156 : decode cX7_neighbour 156 = .ok (.lsub, 1) := by decide +kernel
theorem dX7_neighbour_157 : decode cX7_neighbour 157 = .ok (.lload 9, 2) := by decide +kernel
theorem dX7_neighbour_159 : decode cX7_neighbour 159 = .ok (.ldiv, 1) := by decide +kernel
theorem dX7_neighbour_160 : decode cX7_neighbour 160 = .ok (.invokestatic 372, 3) := by decide +kernel
theorem dX7_neighbour_163 : decode cX7_neighbour 163 = .ok (.lstore 23, 2) := by decide +kernel
theorem dX7_neighbour_165 : decode cX7_neighbour 165 = .ok (.lload 11, 2) := by decide +kernel
theorem dX7_neighbour_167 : decode cX7_neighbour 167 = .ok (.lload 23, 2) := by decide +kernel
theorem dX7_neighbour_169 : decode cX7_neighbour 169 = .ok (.lload 7, 2) := by decide +kernel
theorem dX7_neighbour_171 : decode cX7_neighbour 171 = .ok (.lmul, 1) := by decide +kernel
theorem dX7_neighbour_172 : decode cX7_neighbour 172 = .ok (.ladd, 1) := by decide +kernel
theorem dX7_neighbour_173 : decode cX7_neighbour 173 = .ok (.lstore 11, 2) := by decide +kernel
theorem dX7_neighbour_175 : decode cX7_neighbour 175 = .ok (.lload 13, 2) := by decide +kernel
theorem dX7_neighbour_177 : decode cX7_neighbour 177 = .ok (.lload 23, 2) := by decide +kernel
theorem dX7_neighbour_179 : decode cX7_neighbour 179 = .ok (.lload 9, 2) := by decide +kernel
theorem dX7_neighbour_181 : decode cX7_neighbour 181 = .ok (.lmul, 1) := by decide +kernel
theorem dX7_neighbour_182 : decode cX7_neighbour 182 = .ok (.ladd, 1) := by decide +kernel
theorem dX7_neighbour_183 : decode cX7_neighbour 183 = .ok (.lstore 13, 2) := by decide +kernel
theorem dX7_neighbour_185 : decode cX7_neighbour 185 = .ok (.lload 21, 2) := by decide +kernel
theorem dX7_neighbour_187 : decode cX7_neighbour 187 = .ok (.lconst 0, 1) := by decide +kernel
theorem dX7_neighbour_188 : decode cX7_neighbour 188 = .ok (.lcmp, 1) := by decide +kernel
theorem dX7_neighbour_189 : decode cX7_neighbour 189 = .ok (.ifCond .gt 10, 3) := by decide +kernel
theorem dX7_neighbour_192 : decode cX7_neighbour 192 = .ok (.lload 23, 2) := by decide +kernel
theorem dX7_neighbour_194 : decode cX7_neighbour 194 = .ok (.lconst 0, 1) := by decide +kernel
theorem dX7_neighbour_195 : decode cX7_neighbour 195 = .ok (.lcmp, 1) := by decide +kernel
theorem dX7_neighbour_196 : decode cX7_neighbour 196 = .ok (.ifCond .le 7, 3) := by decide +kernel
theorem dX7_neighbour_199 : decode cX7_neighbour 199 = .ok (.iconst 1, 1) := by decide +kernel
theorem dX7_neighbour_200 : decode cX7_neighbour 200 = .ok (.goto 4, 3) := by decide +kernel
theorem dX7_neighbour_203 : decode cX7_neighbour 203 = .ok (.iconst 0, 1) := by decide +kernel
theorem dX7_neighbour_204 : decode cX7_neighbour 204 = .ok (.istore 15, 2) := by decide +kernel
theorem dX7_neighbour_206 : decode cX7_neighbour 206 = .ok (.iinc 16 1, 3) := by decide +kernel
theorem dX7_neighbour_209 : decode cX7_neighbour 209 = .ok (.goto (-191), 3) := by decide +kernel
theorem dX7_neighbour_212 : decode cX7_neighbour 212 = .ok (.iload 5, 2) := by decide +kernel
theorem dX7_neighbour_214 : decode cX7_neighbour 214 = .ok (.ifCond .ne 17, 3) := by decide +kernel
theorem dX7_neighbour_217 : decode cX7_neighbour 217 = .ok (.iload 6, 2) := by decide +kernel
theorem dX7_neighbour_219 : decode cX7_neighbour 219 = .ok (.ifCond .ne 8, 3) := by decide +kernel
theorem dX7_neighbour_222 : decode cX7_neighbour 222 = .ok (.lload 7, 2) := by decide +kernel
theorem dX7_neighbour_224 : decode cX7_neighbour 224 = .ok (.goto 5, 3) := by decide +kernel
theorem dX7_neighbour_227 : decode cX7_neighbour 227 = .ok (.lload 9, 2) := by decide +kernel
theorem dX7_neighbour_229 : decode cX7_neighbour 229 = .ok (.l2i, 1) := by decide +kernel
theorem dX7_neighbour_230 : decode cX7_neighbour 230 = .ok (.ireturn, 1) := by decide +kernel
theorem dX7_neighbour_231 : decode cX7_neighbour 231 = .ok (.iload 6, 2) := by decide +kernel
theorem dX7_neighbour_233 : decode cX7_neighbour 233 = .ok (.ifCond .ne 8, 3) := by decide +kernel
theorem dX7_neighbour_236 : decode cX7_neighbour 236 = .ok (.lload 11, 2) := by decide +kernel
theorem dX7_neighbour_238 : decode cX7_neighbour 238 = .ok (.goto 5, 3) := by decide +kernel
theorem dX7_neighbour_241 : decode cX7_neighbour 241 = .ok (.lload 13, 2) := by decide +kernel
theorem dX7_neighbour_243 : decode cX7_neighbour 243 = .ok (.l2i, 1) := by decide +kernel
theorem dX7_neighbour_244 : decode cX7_neighbour 244 = .ok (.ireturn, 1) := by decide +kernel
def f_X7_neighbour (N : Nat) (x0 : Int64) (x2 : Int64) (x4 : Int32) (x5 : Int32) (x6 : Int32) (M : Mem) : Option (Int32) := lp (fun (k18 : (Int64 × Int64 × Int64 × Int64 × Int32 × Int32) → Option (Int32)) (a18 : Int64 × Int64 × Int64 × Int64 × Int32 × Int32) => jn (fun (a212 : Unit) => if x5 = 0 then (if x6 = 0 then (some a18.1.toInt32) else (some a18.2.1.toInt32)) else (if x6 = 0 then (some a18.2.2.1.toInt32) else (some a18.2.2.2.1.toInt32))) (fun (k212 : Unit → Option (Int32)) => if a18.2.2.2.2.1 = 0 then (k212 ()) else (if (64 : Int32) ≤ a18.2.2.2.2.2 then (k212 ()) else (nm ((x0 * a18.2.1) - (x2 * a18.1)) (fun v1 => nm ((x2 * a18.2.2.1) - (x0 * a18.2.2.2.1)) (fun v2 => jn (fun (a70 : Int64) => jn (fun (a95 : Int64) => nm (a18.1 + (a95 * a18.2.2.1)) (fun v3 => nm (a18.2.1 + (a95 * a18.2.2.2.1)) (fun v4 => nm ((x0 * v4) - (x2 * v3)) (fun v5 => jn (fun (a163 : Int64) => nm (a18.2.2.1 + (a163 * v3)) (fun v6 => nm (a18.2.2.2.1 + (a163 * v4)) (fun v7 => jn (fun (a204 : Int32) => nm (a18.2.2.2.2.2 + (1 : Int32)) (fun v8 => k18 (v3, v4, v6, v7, a204, v8))) (fun (k204 : Int32 → Option (Int32)) => jn (fun (a199 : Unit) => k204 (1 : Int32)) (fun (k199 : Unit → Option (Int32)) => if 0 < (lg_cmp a95 (0 : Int64)) then (k199 ()) else (if (lg_cmp a163 (0 : Int64)) ≤ 0 then (k204 (0 : Int32)) else (k199 ()))))))) (fun (k163 : Int64 → Option (Int32)) => jn (fun (a140 : Unit) => k163 (0 : Int64)) (fun (k140 : Unit → Option (Int32)) => if (lg_cmp v5 (1 : Int64)) < 0 then (k140 ()) else (if 0 ≤ (lg_cmp v4 (1 : Int64)) then (ck (¬ v5 = 0) (ck (¬ v4 = 0) (bd (f_J9_min_f86c9 N ((v2 - (1 : Int64)) / v5) ((x4.toInt64 - a18.2.2.2.1) / v4) M) (fun v9 => k163 v9)))) else (k140 ())))))))) (fun (k95 : Int64 → Option (Int32)) => if (lg_cmp a18.2.2.2.1 (0 : Int64)) ≤ 0 then (k95 a70) else (ck (¬ a18.2.2.2.1 = 0) (bd (f_J9_min_f86c9 N a70 ((x4.toInt64 - a18.2.1) / a18.2.2.2.1) M) (fun v11 => k95 v11))))) (fun (k70 : Int64 → Option (Int32)) => if 0 ≤ (lg_cmp v2 (1 : Int64)) then (ck (¬ v2 = 0) (k70 ((v1 - (1 : Int64)) / v2))) else (k70 (0 : Int64))))))))) N ((0 : Int64), (1 : Int64), (1 : Int64), (0 : Int64), (1 : Int32), (0 : Int32))
set_option maxRecDepth 100000 in
set_option maxHeartbeats 4000000 in
theorem c_X7_neighbour {l : Launch} {D : va_G} {ac : Nat → ClassId} {A : Nat → Prop} {ad : Nat → Nat} {rest : va_W} (N : Nat) (x0 : Int64) (x2 : Int64) (x4 : Int32) (x5 : Int32) (x6 : Int32)  (M : Mem) (r0 : Int32) (hf : f_X7_neighbour N x0 x2 x4 x5 x6 M = some r0) : CtI l D ac A tabX ad rest yX7_neighbour cX7_neighbour 25 .int 2 [.long x0, .long x2, .int x4, .int x5, .int x6] M r0 M := by
  refine ct_ofI (own := RX7) (by decide +kernel) rfl (Nat.le_of_ble_eq_true rfl) ?_
  intro p e s m args below meth c C
  unfold f_X7_neighbour at hf
  refine a_L (L' := [(0, .long x0), (2, .long x2), (4, .int x4), (5, .int x5), (6, .int x6)]) rfl ?_
  refine a_lconst (pc := 0) (v := 0) C dX7_neighbour_0 (by decide) ?_
  refine a_lstore (pc := 1) [(7, .long (0 : Int64)), (0, .long x0), (2, .long x2), (4, .int x4), (5, .int x5), (6, .int x6)] C dX7_neighbour_1 (by decide) rfl ?_
  refine a_lconst (pc := 3) (v := 1) C dX7_neighbour_3 (by decide) ?_
  refine a_lstore (pc := 4) [(9, .long (1 : Int64)), (7, .long (0 : Int64)), (0, .long x0), (2, .long x2), (4, .int x4), (5, .int x5), (6, .int x6)] C dX7_neighbour_4 (by decide) rfl ?_
  refine a_lconst (pc := 6) (v := 1) C dX7_neighbour_6 (by decide) ?_
  refine a_lstore (pc := 7) [(11, .long (1 : Int64)), (9, .long (1 : Int64)), (7, .long (0 : Int64)), (0, .long x0), (2, .long x2), (4, .int x4), (5, .int x5), (6, .int x6)] C dX7_neighbour_7 (by decide) rfl ?_
  refine a_lconst (pc := 9) (v := 0) C dX7_neighbour_9 (by decide) ?_
  refine a_lstore (pc := 10) [(13, .long (0 : Int64)), (11, .long (1 : Int64)), (9, .long (1 : Int64)), (7, .long (0 : Int64)), (0, .long x0), (2, .long x2), (4, .int x4), (5, .int x5), (6, .int x6)] C dX7_neighbour_10 (by decide) rfl ?_
  refine a_iconst (pc := 12) (v := 1) C dX7_neighbour_12 (by decide) ?_
  refine a_istore (pc := 13) [(15, .int (1 : Int32)), (13, .long (0 : Int64)), (11, .long (1 : Int64)), (9, .long (1 : Int64)), (7, .long (0 : Int64)), (0, .long x0), (2, .long x2), (4, .int x4), (5, .int x5), (6, .int x6)] C dX7_neighbour_13 (by decide) rfl ?_
  refine a_iconst (pc := 15) (v := 0) C dX7_neighbour_15 (by decide) ?_
  refine a_istore (pc := 16) [(16, .int (0 : Int32)), (15, .int (1 : Int32)), (13, .long (0 : Int64)), (11, .long (1 : Int64)), (9, .long (1 : Int64)), (7, .long (0 : Int64)), (0, .long x0), (2, .long x2), (4, .int x4), (5, .int x5), (6, .int x6)] C dX7_neighbour_16 (by decide) rfl ?_
  refine a_sub [6, 7, 8, 9, 10, 5, 4, 3, 2, 1, 0] rfl ?_
  refine a_lp 18 (fun a18 : Int64 × Int64 × Int64 × Int64 × Int32 × Int32 => [(0, .long x0), (2, .long x2), (4, .int x4), (5, .int x5), (6, .int x6), (7, .long a18.1), (9, .long a18.2.1), (11, .long a18.2.2.1), (13, .long a18.2.2.2.1), (15, .int a18.2.2.2.2.1), (16, .int a18.2.2.2.2.2)]) (fun a18 : Int64 × Int64 × Int64 × Int64 × Int32 × Int32 => []) (fun a18 : Int64 × Int64 × Int64 × Int64 × Int32 × Int32 => M) (fun k18 a18 hk18 hf => ?_) N ((0 : Int64), (1 : Int64), (1 : Int64), (0 : Int64), (1 : Int32), (0 : Int32)) hf
  refine a_iload (pc := 18) C dX7_neighbour_18 9 rfl ?_
  refine a_jn 212 (fun a212 : Unit => [(5, .int x5), (6, .int x6), (7, .long a18.1), (9, .long a18.2.1), (11, .long a18.2.2.1), (13, .long a18.2.2.2.1)]) (fun a212 : Unit => []) (fun a212 : Unit => M) hf (fun a212 hf => ?_) (fun k212 hk212 hf => ?_)
  · refine a_iload (pc := 212) C dX7_neighbour_212 0 rfl ?_
    refine a_if_ne (pc := 214) 231 C dX7_neighbour_214 (by decide) hf (fun hf => ?_) (fun hf => ?_)
    · refine a_iload (pc := 231) C dX7_neighbour_231 1 rfl ?_
      refine a_if_ne (pc := 233) 241 C dX7_neighbour_233 (by decide) hf (fun hf => ?_) (fun hf => ?_)
      · refine a_lload (pc := 241) C dX7_neighbour_241 5 rfl ?_
        refine a_l2i (pc := 243) C dX7_neighbour_243 ?_
        exact a_iret (pc := 244) C dX7_neighbour_244 (Option.some.inj hf) rfl
      · refine a_lload (pc := 236) C dX7_neighbour_236 4 rfl ?_
        refine a_goto (pc := 238) 243 C dX7_neighbour_238 (by decide) ?_
        refine a_l2i (pc := 243) C dX7_neighbour_243 ?_
        exact a_iret (pc := 244) C dX7_neighbour_244 (Option.some.inj hf) rfl
    · refine a_iload (pc := 217) C dX7_neighbour_217 1 rfl ?_
      refine a_if_ne (pc := 219) 227 C dX7_neighbour_219 (by decide) hf (fun hf => ?_) (fun hf => ?_)
      · refine a_lload (pc := 227) C dX7_neighbour_227 3 rfl ?_
        refine a_l2i (pc := 229) C dX7_neighbour_229 ?_
        exact a_iret (pc := 230) C dX7_neighbour_230 (Option.some.inj hf) rfl
      · refine a_lload (pc := 222) C dX7_neighbour_222 2 rfl ?_
        refine a_goto (pc := 224) 229 C dX7_neighbour_224 (by decide) ?_
        refine a_l2i (pc := 229) C dX7_neighbour_229 ?_
        exact a_iret (pc := 230) C dX7_neighbour_230 (Option.some.inj hf) rfl
  · refine a_if_eq (pc := 20) 212 C dX7_neighbour_20 (by decide) hf (fun hf => ?_) (fun hf => ?_)
    · exact a_sub [3, 4, 5, 6, 7, 8] rfl (hk212 () hf)
    · refine a_iload (pc := 23) C dX7_neighbour_23 10 rfl ?_
      refine a_bipush (pc := 25) (v := 64) C dX7_neighbour_25 (by decide) ?_
      refine a_icmp_ge (pc := 27) 212 C dX7_neighbour_27 (by decide) hf (fun hf => ?_) (fun hf => ?_)
      · exact a_sub [3, 4, 5, 6, 7, 8] rfl (hk212 () hf)
      · refine a_lload_n (pc := 30) C dX7_neighbour_30 0 rfl ?_
        refine a_lload (pc := 31) C dX7_neighbour_31 6 rfl ?_
        refine a_lmul (pc := 33) C dX7_neighbour_33 ?_
        refine a_lload_n (pc := 34) C dX7_neighbour_34 1 rfl ?_
        refine a_lload (pc := 35) C dX7_neighbour_35 5 rfl ?_
        refine a_lmul (pc := 37) C dX7_neighbour_37 ?_
        refine a_lsub (pc := 38) C dX7_neighbour_38 ?_
        refine a_nml hf (fun v1 hf => ?_)
        refine a_lstore (pc := 39) [(17, .long v1), (0, .long x0), (2, .long x2), (4, .int x4), (5, .int x5), (6, .int x6), (7, .long a18.1), (9, .long a18.2.1), (11, .long a18.2.2.1), (13, .long a18.2.2.2.1), (15, .int a18.2.2.2.2.1), (16, .int a18.2.2.2.2.2)] C dX7_neighbour_39 (by decide) rfl ?_
        refine a_lload_n (pc := 41) C dX7_neighbour_41 2 rfl ?_
        refine a_lload (pc := 42) C dX7_neighbour_42 8 rfl ?_
        refine a_lmul (pc := 44) C dX7_neighbour_44 ?_
        refine a_lload_n (pc := 45) C dX7_neighbour_45 1 rfl ?_
        refine a_lload (pc := 46) C dX7_neighbour_46 9 rfl ?_
        refine a_lmul (pc := 48) C dX7_neighbour_48 ?_
        refine a_lsub (pc := 49) C dX7_neighbour_49 ?_
        refine a_nml hf (fun v2 hf => ?_)
        refine a_lstore (pc := 50) [(19, .long v2), (17, .long v1), (0, .long x0), (2, .long x2), (4, .int x4), (5, .int x5), (6, .int x6), (7, .long a18.1), (9, .long a18.2.1), (11, .long a18.2.2.1), (13, .long a18.2.2.2.1), (15, .int a18.2.2.2.2.1), (16, .int a18.2.2.2.2.2)] C dX7_neighbour_50 (by decide) rfl ?_
        refine a_lload (pc := 52) C dX7_neighbour_52 0 rfl ?_
        refine a_lconst (pc := 54) (v := 1) C dX7_neighbour_54 (by decide) ?_
        refine a_lcmp (pc := 55) C dX7_neighbour_55 ?_
        refine a_jn 70 (fun a70 : Int64 => [(0, .long x0), (2, .long x2), (4, .int x4), (5, .int x5), (6, .int x6), (7, .long a18.1), (9, .long a18.2.1), (11, .long a18.2.2.1), (13, .long a18.2.2.2.1), (16, .int a18.2.2.2.2.2), (19, .long v2)]) (fun a70 : Int64 => [.long a70]) (fun a70 : Int64 => M) hf (fun a70 hf => ?_) (fun k70 hk70 hf => ?_)
        · refine a_lstore (pc := 70) [(21, .long a70), (0, .long x0), (2, .long x2), (4, .int x4), (5, .int x5), (6, .int x6), (7, .long a18.1), (9, .long a18.2.1), (11, .long a18.2.2.1), (13, .long a18.2.2.2.1), (16, .int a18.2.2.2.2.2), (19, .long v2)] C dX7_neighbour_70 (by decide) rfl ?_
          refine a_lload (pc := 72) C dX7_neighbour_72 9 rfl ?_
          refine a_lconst (pc := 74) (v := 0) C dX7_neighbour_74 (by decide) ?_
          refine a_lcmp (pc := 75) C dX7_neighbour_75 ?_
          refine a_jn 95 (fun a95 : Int64 => [(0, .long x0), (2, .long x2), (4, .int x4), (5, .int x5), (6, .int x6), (7, .long a18.1), (9, .long a18.2.1), (11, .long a18.2.2.1), (13, .long a18.2.2.2.1), (16, .int a18.2.2.2.2.2), (19, .long v2), (21, .long a95)]) (fun a95 : Int64 => []) (fun a95 : Int64 => M) hf (fun a95 hf => ?_) (fun k95 hk95 hf => ?_)
          · refine a_lload (pc := 95) C dX7_neighbour_95 5 rfl ?_
            refine a_lload (pc := 97) C dX7_neighbour_97 11 rfl ?_
            refine a_lload (pc := 99) C dX7_neighbour_99 7 rfl ?_
            refine a_lmul (pc := 101) C dX7_neighbour_101 ?_
            refine a_ladd (pc := 102) C dX7_neighbour_102 ?_
            refine a_nml hf (fun v3 hf => ?_)
            refine a_lstore (pc := 103) [(7, .long v3), (0, .long x0), (2, .long x2), (4, .int x4), (5, .int x5), (6, .int x6), (9, .long a18.2.1), (11, .long a18.2.2.1), (13, .long a18.2.2.2.1), (16, .int a18.2.2.2.2.2), (19, .long v2), (21, .long a95)] C dX7_neighbour_103 (by decide) rfl ?_
            refine a_lload (pc := 105) C dX7_neighbour_105 6 rfl ?_
            refine a_lload (pc := 107) C dX7_neighbour_107 11 rfl ?_
            refine a_lload (pc := 109) C dX7_neighbour_109 8 rfl ?_
            refine a_lmul (pc := 111) C dX7_neighbour_111 ?_
            refine a_ladd (pc := 112) C dX7_neighbour_112 ?_
            refine a_nml hf (fun v4 hf => ?_)
            refine a_lstore (pc := 113) [(9, .long v4), (7, .long v3), (0, .long x0), (2, .long x2), (4, .int x4), (5, .int x5), (6, .int x6), (11, .long a18.2.2.1), (13, .long a18.2.2.2.1), (16, .int a18.2.2.2.2.2), (19, .long v2), (21, .long a95)] C dX7_neighbour_113 (by decide) rfl ?_
            refine a_lload_n (pc := 115) C dX7_neighbour_115 2 rfl ?_
            refine a_lload (pc := 116) C dX7_neighbour_116 0 rfl ?_
            refine a_lmul (pc := 118) C dX7_neighbour_118 ?_
            refine a_lload_n (pc := 119) C dX7_neighbour_119 3 rfl ?_
            refine a_lload (pc := 120) C dX7_neighbour_120 1 rfl ?_
            refine a_lmul (pc := 122) C dX7_neighbour_122 ?_
            refine a_lsub (pc := 123) C dX7_neighbour_123 ?_
            refine a_nml hf (fun v5 hf => ?_)
            refine a_lstore (pc := 124) [(17, .long v5), (9, .long v4), (7, .long v3), (0, .long x0), (2, .long x2), (4, .int x4), (5, .int x5), (6, .int x6), (11, .long a18.2.2.1), (13, .long a18.2.2.2.1), (16, .int a18.2.2.2.2.2), (19, .long v2), (21, .long a95)] C dX7_neighbour_124 (by decide) rfl ?_
            refine a_lload (pc := 126) C dX7_neighbour_126 0 rfl ?_
            refine a_lconst (pc := 128) (v := 1) C dX7_neighbour_128 (by decide) ?_
            refine a_lcmp (pc := 129) C dX7_neighbour_129 ?_
            refine a_jn 163 (fun a163 : Int64 => [(0, .long x0), (2, .long x2), (4, .int x4), (5, .int x5), (6, .int x6), (7, .long v3), (9, .long v4), (11, .long a18.2.2.1), (13, .long a18.2.2.2.1), (16, .int a18.2.2.2.2.2), (21, .long a95)]) (fun a163 : Int64 => [.long a163]) (fun a163 : Int64 => M) hf (fun a163 hf => ?_) (fun k163 hk163 hf => ?_)
            · refine a_lstore (pc := 163) [(23, .long a163), (0, .long x0), (2, .long x2), (4, .int x4), (5, .int x5), (6, .int x6), (7, .long v3), (9, .long v4), (11, .long a18.2.2.1), (13, .long a18.2.2.2.1), (16, .int a18.2.2.2.2.2), (21, .long a95)] C dX7_neighbour_163 (by decide) rfl ?_
              refine a_lload (pc := 165) C dX7_neighbour_165 8 rfl ?_
              refine a_lload (pc := 167) C dX7_neighbour_167 0 rfl ?_
              refine a_lload (pc := 169) C dX7_neighbour_169 6 rfl ?_
              refine a_lmul (pc := 171) C dX7_neighbour_171 ?_
              refine a_ladd (pc := 172) C dX7_neighbour_172 ?_
              refine a_nml hf (fun v6 hf => ?_)
              refine a_lstore (pc := 173) [(11, .long v6), (23, .long a163), (0, .long x0), (2, .long x2), (4, .int x4), (5, .int x5), (6, .int x6), (7, .long v3), (9, .long v4), (13, .long a18.2.2.2.1), (16, .int a18.2.2.2.2.2), (21, .long a95)] C dX7_neighbour_173 (by decide) rfl ?_
              refine a_lload (pc := 175) C dX7_neighbour_175 9 rfl ?_
              refine a_lload (pc := 177) C dX7_neighbour_177 1 rfl ?_
              refine a_lload (pc := 179) C dX7_neighbour_179 8 rfl ?_
              refine a_lmul (pc := 181) C dX7_neighbour_181 ?_
              refine a_ladd (pc := 182) C dX7_neighbour_182 ?_
              refine a_nml hf (fun v7 hf => ?_)
              refine a_lstore (pc := 183) [(13, .long v7), (11, .long v6), (23, .long a163), (0, .long x0), (2, .long x2), (4, .int x4), (5, .int x5), (6, .int x6), (7, .long v3), (9, .long v4), (16, .int a18.2.2.2.2.2), (21, .long a95)] C dX7_neighbour_183 (by decide) rfl ?_
              refine a_lload (pc := 185) C dX7_neighbour_185 11 rfl ?_
              refine a_lconst (pc := 187) (v := 0) C dX7_neighbour_187 (by decide) ?_
              refine a_lcmp (pc := 188) C dX7_neighbour_188 ?_
              refine a_jn 204 (fun a204 : Int32 => [(0, .long x0), (2, .long x2), (4, .int x4), (5, .int x5), (6, .int x6), (7, .long v3), (9, .long v4), (11, .long v6), (13, .long v7), (16, .int a18.2.2.2.2.2)]) (fun a204 : Int32 => [.int a204]) (fun a204 : Int32 => M) hf (fun a204 hf => ?_) (fun k204 hk204 hf => ?_)
              · refine a_istore (pc := 204) [(15, .int a204), (0, .long x0), (2, .long x2), (4, .int x4), (5, .int x5), (6, .int x6), (7, .long v3), (9, .long v4), (11, .long v6), (13, .long v7), (16, .int a18.2.2.2.2.2)] C dX7_neighbour_204 (by decide) rfl ?_
                refine a_iinc (pc := 206) (v := 1) (fun v8 => [(16, .int v8), (15, .int a204), (0, .long x0), (2, .long x2), (4, .int x4), (5, .int x5), (6, .int x6), (7, .long v3), (9, .long v4), (11, .long v6), (13, .long v7)]) C dX7_neighbour_206 10 rfl (by decide) (by decide) (fun _ => rfl) hf (fun v8 hf => ?_)
                refine a_goto (pc := 209) 18 C dX7_neighbour_209 (by decide) ?_
                exact a_sub [2, 3, 4, 5, 6, 7, 8, 9, 10, 1, 0] rfl (hk18 (v3, v4, v6, v7, a204, v8) hf)
              · refine a_jn 199 (fun a199 : Unit => [(0, .long x0), (2, .long x2), (4, .int x4), (5, .int x5), (6, .int x6), (7, .long v3), (9, .long v4), (11, .long v6), (13, .long v7), (16, .int a18.2.2.2.2.2)]) (fun a199 : Unit => []) (fun a199 : Unit => M) hf (fun a199 hf => ?_) (fun k199 hk199 hf => ?_)
                · refine a_iconst (pc := 199) (v := 1) C dX7_neighbour_199 (by decide) ?_
                  refine a_goto (pc := 200) 204 C dX7_neighbour_200 (by decide) ?_
                  exact a_sub [0, 1, 2, 3, 4, 5, 6, 7, 8, 9] rfl (hk204 (1 : Int32) hf)
                · refine a_if_gt (pc := 189) 199 C dX7_neighbour_189 (by decide) hf (fun hf => ?_) (fun hf => ?_)
                  · exact a_sub [3, 4, 5, 6, 7, 8, 9, 1, 0, 10] rfl (hk199 () hf)
                  · refine a_lload (pc := 192) C dX7_neighbour_192 2 rfl ?_
                    refine a_lconst (pc := 194) (v := 0) C dX7_neighbour_194 (by decide) ?_
                    refine a_lcmp (pc := 195) C dX7_neighbour_195 ?_
                    refine a_if_le (pc := 196) 203 C dX7_neighbour_196 (by decide) hf (fun hf => ?_) (fun hf => ?_)
                    · refine a_iconst (pc := 203) (v := 0) C dX7_neighbour_203 (by decide) ?_
                      exact a_sub [3, 4, 5, 6, 7, 8, 9, 1, 0, 10] rfl (hk204 (0 : Int32) hf)
                    · exact a_sub [3, 4, 5, 6, 7, 8, 9, 1, 0, 10] rfl (hk199 () hf)
            · refine a_jn 140 (fun a140 : Unit => [(0, .long x0), (2, .long x2), (4, .int x4), (5, .int x5), (6, .int x6), (7, .long v3), (9, .long v4), (11, .long a18.2.2.1), (13, .long a18.2.2.2.1), (16, .int a18.2.2.2.2.2), (21, .long a95)]) (fun a140 : Unit => []) (fun a140 : Unit => M) hf (fun a140 hf => ?_) (fun k140 hk140 hf => ?_)
              · refine a_lconst (pc := 140) (v := 0) C dX7_neighbour_140 (by decide) ?_
                refine a_goto (pc := 141) 163 C dX7_neighbour_141 (by decide) ?_
                exact a_sub [0, 1, 2, 3, 4, 5, 6, 7, 8, 9, 10] rfl (hk163 (0 : Int64) hf)
              · refine a_if_lt (pc := 130) 140 C dX7_neighbour_130 (by decide) hf (fun hf => ?_) (fun hf => ?_)
                · exact a_sub [3, 4, 5, 6, 7, 2, 1, 8, 9, 10, 12] rfl (hk140 () hf)
                · refine a_lload (pc := 133) C dX7_neighbour_133 1 rfl ?_
                  refine a_lconst (pc := 135) (v := 1) C dX7_neighbour_135 (by decide) ?_
                  refine a_lcmp (pc := 136) C dX7_neighbour_136 ?_
                  refine a_if_ge (pc := 137) 144 C dX7_neighbour_137 (by decide) hf (fun hf => ?_) (fun hf => ?_)
                  · refine a_lload (pc := 144) C dX7_neighbour_144 11 rfl ?_
                    refine a_lconst (pc := 146) (v := 1) C dX7_neighbour_146 (by decide) ?_
                    refine a_lsub (pc := 147) C dX7_neighbour_147 ?_
                    refine a_lload (pc := 148) C dX7_neighbour_148 0 rfl ?_
                    refine a_ldiv (pc := 150) C dX7_neighbour_150 hf (fun hf => ?_)
                    refine a_iload (pc := 151) C dX7_neighbour_151 5 rfl ?_
                    refine a_i2l (pc := 153) C dX7_neighbour_153 ?_
                    refine a_lload (pc := 154) C dX7_neighbour_154 9 rfl ?_
                    refine a_lsub (pc := 156) C dX7_neighbour_156 ?_
                    refine a_lload (pc := 157) C dX7_neighbour_157 1 rfl ?_
                    refine a_ldiv (pc := 159) C dX7_neighbour_159 hf (fun hf => ?_)
                    refine a_callS_Jr (pc := 160) (d' := 1) C dX7_neighbour_160 ml_X7_372 mc_J9_min_f86c9 ms_J9_min_f86c9 [.long ((v2 - (1 : Int64)) / v5), .long ((x4.toInt64 - a18.2.2.2.1) / v4)] rfl (Nat.le_of_ble_eq_true rfl) (Nat.le_of_ble_eq_true rfl) rfl (Nat.le_of_ble_eq_true rfl) (fun r h => c_J9_min_f86c9 N ((v2 - (1 : Int64)) / v5) ((x4.toInt64 - a18.2.2.2.1) / v4)  _  r h) hf (fun v9 hf => ?_)
                    exact a_sub [3, 4, 5, 6, 7, 2, 1, 8, 9, 10, 12] rfl (hk163 v9 hf)
                  · exact a_sub [3, 4, 5, 6, 7, 2, 1, 8, 9, 10, 12] rfl (hk140 () hf)
          · refine a_if_le (pc := 76) 95 C dX7_neighbour_76 (by decide) hf (fun hf => ?_) (fun hf => ?_)
            · exact a_sub [1, 2, 3, 4, 5, 6, 7, 8, 9, 10, 11, 0] rfl (hk95 a70 hf)
            · refine a_lload (pc := 79) C dX7_neighbour_79 0 rfl ?_
              refine a_iload (pc := 81) C dX7_neighbour_81 3 rfl ?_
              refine a_i2l (pc := 83) C dX7_neighbour_83 ?_
              refine a_lload (pc := 84) C dX7_neighbour_84 7 rfl ?_
              refine a_lsub (pc := 86) C dX7_neighbour_86 ?_
              refine a_lload (pc := 87) C dX7_neighbour_87 9 rfl ?_
              refine a_ldiv (pc := 89) C dX7_neighbour_89 hf (fun hf => ?_)
              refine a_callS_Jr (pc := 90) (d' := 1) C dX7_neighbour_90 ml_X7_372 mc_J9_min_f86c9 ms_J9_min_f86c9 [.long a70, .long ((x4.toInt64 - a18.2.1) / a18.2.2.2.1)] rfl (Nat.le_of_ble_eq_true rfl) (Nat.le_of_ble_eq_true rfl) rfl (Nat.le_of_ble_eq_true rfl) (fun r h => c_J9_min_f86c9 N a70 ((x4.toInt64 - a18.2.1) / a18.2.2.2.1)  _  r h) hf (fun v11 hf => ?_)
              refine a_lstore (pc := 93) [(21, .long v11), (0, .long x0), (2, .long x2), (4, .int x4), (5, .int x5), (6, .int x6), (7, .long a18.1), (9, .long a18.2.1), (11, .long a18.2.2.1), (13, .long a18.2.2.2.1), (16, .int a18.2.2.2.2.2), (19, .long v2)] C dX7_neighbour_93 (by decide) rfl ?_
              exact a_sub [1, 2, 3, 4, 5, 6, 7, 8, 9, 10, 11, 0] rfl (hk95 v11 hf)
        · refine a_if_ge (pc := 56) 63 C dX7_neighbour_56 (by decide) hf (fun hf => ?_) (fun hf => ?_)
          · refine a_lload (pc := 63) C dX7_neighbour_63 1 rfl ?_
            refine a_lconst (pc := 65) (v := 1) C dX7_neighbour_65 (by decide) ?_
            refine a_lsub (pc := 66) C dX7_neighbour_66 ?_
            refine a_lload (pc := 67) C dX7_neighbour_67 0 rfl ?_
            refine a_ldiv (pc := 69) C dX7_neighbour_69 hf (fun hf => ?_)
            exact a_sub [2, 3, 4, 5, 6, 7, 8, 9, 10, 12, 0] rfl (hk70 ((v1 - (1 : Int64)) / v2) hf)
          · refine a_lconst (pc := 59) (v := 0) C dX7_neighbour_59 (by decide) ?_
            refine a_goto (pc := 60) 70 C dX7_neighbour_60 (by decide) ?_
            exact a_sub [2, 3, 4, 5, 6, 7, 8, 9, 10, 12, 0] rfl (hk70 (0 : Int64) hf)
theorem dX8_isPoint_0 : decode cX8_isPoint 0 = .ok (.iload_n 1, 1) := by decide +kernel
theorem dX8_isPoint_1 : decode cX8_isPoint 1 = .ok (.i2l, 1) := by decide +kernel
theorem dX8_isPoint_2 : decode cX8_isPoint 2 = .ok (.lconst 0, 1) := by decide +kernel
theorem dX8_isPoint_3 : decode cX8_isPoint 3 = .ok (.aload_n 0, 1) := by decide +kernel
theorem dX8_isPoint_4 : decode cX8_isPoint 4 = .ok (.getfield 95, 3) := by decide +kernel
theorem dX8_isPoint_7 : decode cX8_isPoint 7 = .ok (.iconst 1, 1) := by decide +kernel
theorem dX8_isPoint_8 : decode cX8_isPoint 8 = .ok (.isub, 1) := by decide +kernel
theorem dX8_isPoint_9 : decode cX8_isPoint 9 = .ok (.i2l, 1) := by decide +kernel
theorem dX8_isPoint_10 : decode cX8_isPoint 10 = .ok (.invokestatic 98, 3) := by decide +kernel
theorem dX8_isPoint_13 : decode cX8_isPoint 13 = .ok (.ireturn, 1) := by decide +kernel
def f_X8_isPoint (N : Nat) (x1 : Int32) (M : Mem) : Option (Int32) := bd (f_X8_in N x1.toInt64 (0 : Int64) (((M.1 0 0) - (1 : Int32)).toInt64) M) (fun v1 => ck (v1 = 0 ∨ v1 = 1) (some v1))
set_option maxRecDepth 100000 in
set_option maxHeartbeats 4000000 in
theorem c_X8_isPoint {l : Launch} {D : va_G} {ac : Nat → ClassId} {A : Nat → Prop} {ad : Nat → Nat} {rest : va_W} (N : Nat) (x1 : Int32)  (M : Mem) (r0 : Int32) (hf : f_X8_isPoint N x1 M = some r0) : CtI l D ac A tabM ad rest yX8_isPoint cX8_isPoint 2 .boolean 2 [.ref (ad 0), .int x1] M r0 M := by
  refine ct_ofI (own := RX8) (by decide +kernel) rfl (Nat.le_of_ble_eq_true rfl) ?_
  intro p e s m args below meth c C
  unfold f_X8_isPoint at hf
  refine a_L (L' := [(0, .ref (ad 0)), (1, .int x1)]) rfl ?_
  refine a_iload_n (pc := 0) C dX8_isPoint_0 1 rfl ?_
  refine a_i2l (pc := 1) C dX8_isPoint_1 ?_
  refine a_lconst (pc := 2) (v := 0) C dX8_isPoint_2 (by decide) ?_
  refine a_aload_n (pc := 3) C dX8_isPoint_3 0 rfl ?_
  refine a_getI (pc := 4) C dX8_isPoint_4 fl_X8_95 tm_0 rfl ?_
  refine a_iconst (pc := 7) (v := 1) C dX8_isPoint_7 (by decide) ?_
  refine a_isub (pc := 8) C dX8_isPoint_8 ?_
  refine a_i2l (pc := 9) C dX8_isPoint_9 ?_
  refine a_callS_Ir (pc := 10) (d' := 1) C dX8_isPoint_10 ml_X8_98 mc_X8_in ms_X8_in [.long x1.toInt64, .long (0 : Int64), .long (((M.1 0 0) - (1 : Int32)).toInt64)] rfl (Nat.le_of_ble_eq_true rfl) (Nat.le_of_ble_eq_true rfl) rfl (Nat.le_of_ble_eq_true rfl) (fun r h => c_X8_in N x1.toInt64 (0 : Int64) (((M.1 0 0) - (1 : Int32)).toInt64)  _  r h) hf (fun v1 hf => ?_)
  exact a_zret (pc := 13) C dX8_isPoint_13 (ck_some hf).1 (Option.some.inj (ck_some hf).2) rfl
theorem dX8_isLine_0 : decode cX8_isLine 0 = .ok (.iload_n 1, 1) := by decide +kernel
theorem dX8_isLine_1 : decode cX8_isLine 1 = .ok (.i2l, 1) := by decide +kernel
theorem dX8_isLine_2 : decode cX8_isLine 2 = .ok (.lconst 0, 1) := by decide +kernel
theorem dX8_isLine_3 : decode cX8_isLine 3 = .ok (.aload_n 0, 1) := by decide +kernel
theorem dX8_isLine_4 : decode cX8_isLine 4 = .ok (.getfield 102, 3) := by decide +kernel
theorem dX8_isLine_7 : decode cX8_isLine 7 = .ok (.iconst 1, 1) := by decide +kernel
theorem dX8_isLine_8 : decode cX8_isLine 8 = .ok (.isub, 1) := by decide +kernel
theorem dX8_isLine_9 : decode cX8_isLine 9 = .ok (.i2l, 1) := by decide +kernel
theorem dX8_isLine_10 : decode cX8_isLine 10 = .ok (.invokestatic 98, 3) := by decide +kernel
theorem dX8_isLine_13 : decode cX8_isLine 13 = .ok (.ireturn, 1) := by decide +kernel
def f_X8_isLine (N : Nat) (x1 : Int32) (M : Mem) : Option (Int32) := bd (f_X8_in N x1.toInt64 (0 : Int64) (((M.1 0 1) - (1 : Int32)).toInt64) M) (fun v1 => ck (v1 = 0 ∨ v1 = 1) (some v1))
set_option maxRecDepth 100000 in
set_option maxHeartbeats 4000000 in
theorem c_X8_isLine {l : Launch} {D : va_G} {ac : Nat → ClassId} {A : Nat → Prop} {ad : Nat → Nat} {rest : va_W} (N : Nat) (x1 : Int32)  (M : Mem) (r0 : Int32) (hf : f_X8_isLine N x1 M = some r0) : CtI l D ac A tabM ad rest yX8_isLine cX8_isLine 2 .boolean 2 [.ref (ad 0), .int x1] M r0 M := by
  refine ct_ofI (own := RX8) (by decide +kernel) rfl (Nat.le_of_ble_eq_true rfl) ?_
  intro p e s m args below meth c C
  unfold f_X8_isLine at hf
  refine a_L (L' := [(0, .ref (ad 0)), (1, .int x1)]) rfl ?_
  refine a_iload_n (pc := 0) C dX8_isLine_0 1 rfl ?_
  refine a_i2l (pc := 1) C dX8_isLine_1 ?_
  refine a_lconst (pc := 2) (v := 0) C dX8_isLine_2 (by decide) ?_
  refine a_aload_n (pc := 3) C dX8_isLine_3 0 rfl ?_
  refine a_getI (pc := 4) C dX8_isLine_4 fl_X8_102 tm_0 rfl ?_
  refine a_iconst (pc := 7) (v := 1) C dX8_isLine_7 (by decide) ?_
  refine a_isub (pc := 8) C dX8_isLine_8 ?_
  refine a_i2l (pc := 9) C dX8_isLine_9 ?_
  refine a_callS_Ir (pc := 10) (d' := 1) C dX8_isLine_10 ml_X8_98 mc_X8_in ms_X8_in [.long x1.toInt64, .long (0 : Int64), .long (((M.1 0 1) - (1 : Int32)).toInt64)] rfl (Nat.le_of_ble_eq_true rfl) (Nat.le_of_ble_eq_true rfl) rfl (Nat.le_of_ble_eq_true rfl) (fun r h => c_X8_in N x1.toInt64 (0 : Int64) (((M.1 0 1) - (1 : Int32)).toInt64)  _  r h) hf (fun v1 hf => ?_)
  exact a_zret (pc := 13) C dX8_isLine_13 (ck_some hf).1 (Option.some.inj (ck_some hf).2) rfl
