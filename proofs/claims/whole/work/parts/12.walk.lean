theorem dX8_keeps_0 : decode cX8_keeps 0 = .ok (.aload_n 0, 1) := by decide +kernel
theorem dX8_keeps_1 : decode cX8_keeps 1 = .ok (.getfield 86, 3) := by decide +kernel
theorem dX8_keeps_4 : decode cX8_keeps 4 = .ok (.iconst 3, 1) := by decide +kernel
theorem dX8_keeps_5 : decode cX8_keeps 5 = .ok (.iload_n 1, 1) := by decide +kernel
theorem dX8_keeps_6 : decode cX8_keeps 6 = .ok (.imul, 1) := by decide +kernel
theorem dX8_keeps_7 : decode cX8_keeps 7 = .ok (.aload_n 0, 1) := by decide +kernel
theorem dX8_keeps_8 : decode cX8_keeps 8 = .ok (.getfield 95, 3) := by decide +kernel
theorem dX8_keeps_11 : decode cX8_keeps 11 = .ok (.iastore, 1) := by decide +kernel
theorem dX8_keeps_12 : decode cX8_keeps 12 = .ok (.aload_n 0, 1) := by decide +kernel
theorem dX8_keeps_13 : decode cX8_keeps 13 = .ok (.getfield 86, 3) := by decide +kernel
theorem dX8_keeps_16 : decode cX8_keeps 16 = .ok (.iconst 3, 1) := by decide +kernel
theorem dX8_keeps_17 : decode cX8_keeps 17 = .ok (.iload_n 1, 1) := by decide +kernel
theorem dX8_keeps_18 : decode cX8_keeps 18 = .ok (.imul, 1) := by decide +kernel
theorem dX8_keeps_19 : decode cX8_keeps 19 = .ok (.iconst 1, 1) := by decide +kernel
theorem dX8_keeps_20 : decode cX8_keeps 20 = .ok (.iadd, 1) := by decide +kernel
theorem dX8_keeps_21 : decode cX8_keeps 21 = .ok (.aload_n 0, 1) := by decide +kernel
theorem dX8_keeps_22 : decode cX8_keeps 22 = .ok (.getfield 102, 3) := by decide +kernel
theorem dX8_keeps_25 : decode cX8_keeps 25 = .ok (.iastore, 1) := by decide +kernel
theorem dX8_keeps_26 : decode cX8_keeps 26 = .ok (.aload_n 0, 1) := by decide +kernel
theorem dX8_keeps_27 : decode cX8_keeps 27 = .ok (.getfield 86, 3) := by decide +kernel
theorem dX8_keeps_30 : decode cX8_keeps 30 = .ok (.iconst 3, 1) := by decide +kernel
theorem dX8_keeps_31 : decode cX8_keeps 31 = .ok (.iload_n 1, 1) := by decide +kernel
theorem dX8_keeps_32 : decode cX8_keeps 32 = .ok (.imul, 1) := by decide +kernel
theorem dX8_keeps_33 : decode cX8_keeps 33 = .ok (.iconst 2, 1) := by decide +kernel
theorem dX8_keeps_34 : decode cX8_keeps 34 = .ok (.iadd, 1) := by decide +kernel
theorem dX8_keeps_35 : decode cX8_keeps 35 = .ok (.aload_n 0, 1) := by decide +kernel
theorem dX8_keeps_36 : decode cX8_keeps 36 = .ok (.getfield 7, 3) := by decide +kernel
theorem dX8_keeps_39 : decode cX8_keeps 39 = .ok (.iastore, 1) := by decide +kernel
theorem dX8_keeps_40 : decode cX8_keeps 40 = .ok (.iconst 0, 1) := by decide +kernel
theorem dX8_keeps_41 : decode cX8_keeps 41 = .ok (.istore_n 2, 1) := by decide +kernel
theorem dX8_keeps_42 : decode cX8_keeps 42 = .ok (.iload_n 2, 1) := by decide +kernel
theorem dX8_keeps_43 : decode cX8_keeps 43 = .ok (.bipush 10, 2) := by decide +kernel
theorem dX8_keeps_45 : decode cX8_keeps 45 = .ok (.if_icmp .ge 91, 3) := by decide +kernel
theorem dX8_keeps_48 : decode cX8_keeps 48 = .ok (.aload_n 0, 1) := by decide +kernel
theorem dX8_keeps_49 : decode cX8_keeps 49 = .ok (.getfield 89, 3) := by decide +kernel
theorem dX8_keeps_52 : decode cX8_keeps 52 = .ok (.bipush 40, 2) := by decide +kernel
theorem dX8_keeps_54 : decode cX8_keeps 54 = .ok (.iload_n 1, 1) := by decide +kernel
theorem dX8_keeps_55 : decode cX8_keeps 55 = .ok (.imul, 1) := by decide +kernel
theorem dX8_keeps_56 : decode cX8_keeps 56 = .ok (.iconst 4, 1) := by decide +kernel
theorem dX8_keeps_57 : decode cX8_keeps 57 = .ok (.iload_n 2, 1) := by decide +kernel
theorem dX8_keeps_58 : decode cX8_keeps 58 = .ok (.imul, 1) := by decide +kernel
theorem dX8_keeps_59 : decode cX8_keeps 59 = .ok (.iadd, 1) := by decide +kernel
theorem dX8_keeps_60 : decode cX8_keeps 60 = .ok (.aload_n 0, 1) := by decide +kernel
theorem dX8_keeps_61 : decode cX8_keeps 61 = .ok (.getfield 13, 3) := by decide +kernel
theorem dX8_keeps_64 : decode cX8_keeps 64 = .ok (.iload_n 2, 1) := by decide +kernel
theorem dX8_keeps_65 : decode cX8_keeps 65 = .ok (.iaload, 1) := by decide +kernel
theorem dX8_keeps_66 : decode cX8_keeps 66 = .ok (.iastore, 1) := by decide +kernel
theorem dX8_keeps_67 : decode cX8_keeps 67 = .ok (.aload_n 0, 1) := by decide +kernel
theorem dX8_keeps_68 : decode cX8_keeps 68 = .ok (.getfield 89, 3) := by decide +kernel
theorem dX8_keeps_71 : decode cX8_keeps 71 = .ok (.bipush 40, 2) := by decide +kernel
theorem dX8_keeps_73 : decode cX8_keeps 73 = .ok (.iload_n 1, 1) := by decide +kernel
theorem dX8_keeps_74 : decode cX8_keeps 74 = .ok (.imul, 1) := by decide +kernel
theorem dX8_keeps_75 : decode cX8_keeps 75 = .ok (.iconst 4, 1) := by decide +kernel
theorem dX8_keeps_76 : decode cX8_keeps 76 = .ok (.iload_n 2, 1) := by decide +kernel
theorem dX8_keeps_77 : decode cX8_keeps 77 = .ok (.imul, 1) := by decide +kernel
theorem dX8_keeps_78 : decode cX8_keeps 78 = .ok (.iadd, 1) := by decide +kernel
theorem dX8_keeps_79 : decode cX8_keeps 79 = .ok (.iconst 1, 1) := by decide +kernel
theorem dX8_keeps_80 : decode cX8_keeps 80 = .ok (.iadd, 1) := by decide +kernel
theorem dX8_keeps_81 : decode cX8_keeps 81 = .ok (.aload_n 0, 1) := by decide +kernel
theorem dX8_keeps_82 : decode cX8_keeps 82 = .ok (.getfield 17, 3) := by decide +kernel
theorem dX8_keeps_85 : decode cX8_keeps 85 = .ok (.iload_n 2, 1) := by decide +kernel
theorem dX8_keeps_86 : decode cX8_keeps 86 = .ok (.iaload, 1) := by decide +kernel
theorem dX8_keeps_87 : decode cX8_keeps 87 = .ok (.iastore, 1) := by decide +kernel
theorem dX8_keeps_88 : decode cX8_keeps 88 = .ok (.aload_n 0, 1) := by decide +kernel
theorem dX8_keeps_89 : decode cX8_keeps 89 = .ok (.getfield 89, 3) := by decide +kernel
theorem dX8_keeps_92 : decode cX8_keeps 92 = .ok (.bipush 40, 2) := by decide +kernel
theorem dX8_keeps_94 : decode cX8_keeps 94 = .ok (.iload_n 1, 1) := by decide +kernel
theorem dX8_keeps_95 : decode cX8_keeps 95 = .ok (.imul, 1) := by decide +kernel
theorem dX8_keeps_96 : decode cX8_keeps 96 = .ok (.iconst 4, 1) := by decide +kernel
theorem dX8_keeps_97 : decode cX8_keeps 97 = .ok (.iload_n 2, 1) := by decide +kernel
theorem dX8_keeps_98 : decode cX8_keeps 98 = .ok (.imul, 1) := by decide +kernel
theorem dX8_keeps_99 : decode cX8_keeps 99 = .ok (.iadd, 1) := by decide +kernel
theorem dX8_keeps_100 : decode cX8_keeps 100 = .ok (.iconst 2, 1) := by decide +kernel
theorem dX8_keeps_101 : decode cX8_keeps 101 = .ok (.iadd, 1) := by decide +kernel
theorem dX8_keeps_102 : decode cX8_keeps 102 = .ok (.aload_n 0, 1) := by decide +kernel
theorem dX8_keeps_103 : decode cX8_keeps 103 = .ok (.getfield 20, 3) := by decide +kernel
theorem dX8_keeps_106 : decode cX8_keeps 106 = .ok (.iload_n 2, 1) := by decide +kernel
theorem dX8_keeps_107 : decode cX8_keeps 107 = .ok (.iaload, 1) := by decide +kernel
theorem dX8_keeps_108 : decode cX8_keeps 108 = .ok (.iastore, 1) := by decide +kernel
theorem dX8_keeps_109 : decode cX8_keeps 109 = .ok (.aload_n 0, 1) := by decide +kernel
theorem dX8_keeps_110 : decode cX8_keeps 110 = .ok (.getfield 89, 3) := by decide +kernel
theorem dX8_keeps_113 : decode cX8_keeps 113 = .ok (.bipush 40, 2) := by decide +kernel
theorem dX8_keeps_115 : decode cX8_keeps 115 = .ok (.iload_n 1, 1) := by decide +kernel
theorem dX8_keeps_116 : decode cX8_keeps 116 = .ok (.imul, 1) := by decide +kernel
theorem dX8_keeps_117 : decode cX8_keeps 117 = .ok (.iconst 4, 1) := by decide +kernel
theorem dX8_keeps_118 : decode cX8_keeps 118 = .ok (.iload_n 2, 1) := by decide +kernel
theorem dX8_keeps_119 : decode cX8_keeps 119 = .ok (.imul, 1) := by decide +kernel
theorem dX8_keeps_120 : decode cX8_keeps 120 = .ok (.iadd, 1) := by decide +kernel
theorem dX8_keeps_121 : decode cX8_keeps 121 = .ok (.iconst 3, 1) := by decide +kernel
theorem dX8_keeps_122 : decode cX8_keeps 122 = .ok (.iadd, 1) := by decide +kernel
theorem dX8_keeps_123 : decode cX8_keeps 123 = .ok (.aload_n 0, 1) := by decide +kernel
theorem dX8_keeps_124 : decode cX8_keeps 124 = .ok (.getfield 23, 3) := by decide +kernel
theorem dX8_keeps_127 : decode cX8_keeps 127 = .ok (.iload_n 2, 1) := by decide +kernel
theorem dX8_keeps_128 : decode cX8_keeps 128 = .ok (.iaload, 1) := by decide +kernel
theorem dX8_keeps_129 : decode cX8_keeps 129 = .ok (.iastore, 1) := by decide +kernel
theorem dX8_keeps_130 : decode cX8_keeps 130 = .ok (.iinc 2 1, 3) := by decide +kernel
theorem dX8_keeps_133 : decode cX8_keeps 133 = .ok (.goto (-91), 3) := by decide +kernel
theorem dX8_keeps_136 : decode cX8_keeps 136 = .ok (.iconst 0, 1) := by decide +kernel
theorem dX8_keeps_137 : decode cX8_keeps 137 = .ok (.istore_n 2, 1) := by decide +kernel
theorem dX8_keeps_138 : decode cX8_keeps 138 = .ok (.iload_n 2, 1) := by decide +kernel
theorem dX8_keeps_139 : decode cX8_keeps 139 = .ok (.bipush 6, 2) := by decide +kernel
theorem dX8_keeps_141 : decode cX8_keeps 141 = .ok (.if_icmp .ge 26, 3) := by decide +kernel
theorem dX8_keeps_144 : decode cX8_keeps 144 = .ok (.aload_n 0, 1) := by decide +kernel
theorem dX8_keeps_145 : decode cX8_keeps 145 = .ok (.getfield 92, 3) := by decide +kernel
theorem dX8_keeps_148 : decode cX8_keeps 148 = .ok (.bipush 6, 2) := by decide +kernel
theorem dX8_keeps_150 : decode cX8_keeps 150 = .ok (.iload_n 1, 1) := by decide +kernel
theorem dX8_keeps_151 : decode cX8_keeps 151 = .ok (.imul, 1) := by decide +kernel
theorem dX8_keeps_152 : decode cX8_keeps 152 = .ok (.iload_n 2, 1) := by decide +kernel
theorem dX8_keeps_153 : decode cX8_keeps 153 = .ok (.iadd, 1) := by decide +kernel
theorem dX8_keeps_154 : decode cX8_keeps 154 = .ok (.aload_n 0, 1) := by decide +kernel
theorem dX8_keeps_155 : decode cX8_keeps 155 = .ok (.getfield 28, 3) := by decide +kernel
theorem dX8_keeps_158 : decode cX8_keeps 158 = .ok (.iload_n 2, 1) := by decide +kernel
theorem dX8_keeps_159 : decode cX8_keeps 159 = .ok (.laload, 1) := by decide +kernel
theorem dX8_keeps_160 : decode cX8_keeps 160 = .ok (.lastore, 1) := by decide +kernel
theorem dX8_keeps_161 : decode cX8_keeps 161 = .ok (.iinc 2 1, 3) := by decide +kernel
theorem dX8_keeps_164 : decode cX8_keeps 164 = .ok (.goto (-26), 3) := by decide +kernel
theorem dX8_keeps_167 : decode cX8_keeps 167 = .ok (.return_, 1) := by decide +kernel
def f_X8_keeps (N : Nat) (x1 : Int32) (M : Mem) : Option (Mem) := ck (inb ((3 : Int32) * x1) 6) (nm (setI M 23 ((3 : Int32) * x1).toNatClampNeg (M.1 0 0)) (fun M1 => ck (inb (((3 : Int32) * x1) + (1 : Int32)) 6) (nm (setI M1 23 (((3 : Int32) * x1) + (1 : Int32)).toNatClampNeg (M1.1 0 1)) (fun M2 => ck (inb (((3 : Int32) * x1) + (2 : Int32)) 6) (nm (setI M2 23 (((3 : Int32) * x1) + (2 : Int32)).toNatClampNeg (M2.1 0 2)) (fun M3 => lp (fun (k42 : (Int32 × Mem) → Option (Mem)) (a42 : Int32 × Mem) => if (10 : Int32) ≤ a42.1 then (lp (fun (k138 : (Int32 × Mem) → Option (Mem)) (a138 : Int32 × Mem) => if (6 : Int32) ≤ a138.1 then (some a138.2) else (ck (inb a138.1 6) (ck (inb (((6 : Int32) * x1) + a138.1) 12) (nm (setJ a138.2 25 (((6 : Int32) * x1) + a138.1).toNatClampNeg (a138.2.2 5 a138.1.toNatClampNeg)) (fun M4 => nm (a138.1 + (1 : Int32)) (fun v5 => k138 (v5, M4))))))) N ((0 : Int32), a42.2)) else (ck (inb a42.1 10) (ck (inb (((40 : Int32) * x1) + ((4 : Int32) * a42.1)) 80) (nm (setI a42.2 24 (((40 : Int32) * x1) + ((4 : Int32) * a42.1)).toNatClampNeg (a42.2.1 1 a42.1.toNatClampNeg)) (fun M6 => ck (inb a42.1 10) (ck (inb ((((40 : Int32) * x1) + ((4 : Int32) * a42.1)) + (1 : Int32)) 80) (nm (setI M6 24 ((((40 : Int32) * x1) + ((4 : Int32) * a42.1)) + (1 : Int32)).toNatClampNeg (M6.1 2 a42.1.toNatClampNeg)) (fun M7 => ck (inb a42.1 10) (ck (inb ((((40 : Int32) * x1) + ((4 : Int32) * a42.1)) + (2 : Int32)) 80) (nm (setI M7 24 ((((40 : Int32) * x1) + ((4 : Int32) * a42.1)) + (2 : Int32)).toNatClampNeg (M7.1 3 a42.1.toNatClampNeg)) (fun M8 => ck (inb a42.1 10) (ck (inb ((((40 : Int32) * x1) + ((4 : Int32) * a42.1)) + (3 : Int32)) 80) (nm (setI M8 24 ((((40 : Int32) * x1) + ((4 : Int32) * a42.1)) + (3 : Int32)).toNatClampNeg (M8.1 4 a42.1.toNatClampNeg)) (fun M9 => nm (a42.1 + (1 : Int32)) (fun v10 => k42 (v10, M9)))))))))))))))) N ((0 : Int32), M3)))))))
set_option maxRecDepth 100000 in
set_option maxHeartbeats 4000000 in
theorem c_X8_keeps {l : Launch} {D : va_G} {ac : Nat → ClassId} {A : Nat → Prop} {ad : Nat → Nat} {rest : va_W} (N : Nat) (x1 : Int32)  (M : Mem)  (M0 : Mem) (hf : f_X8_keeps N x1 M = some M0) : CtV l D ac A tabM ad rest yX8_keeps cX8_keeps 3  1 [.ref (ad 0), .int x1] M  M0 := by
  refine ct_ofV (own := RX8) (by decide +kernel) rfl (Nat.le_of_ble_eq_true rfl) ?_
  intro p e s m args below meth c C
  unfold f_X8_keeps at hf
  refine a_L (L' := [(0, .ref (ad 0)), (1, .int x1)]) rfl ?_
  refine a_aload_n (pc := 0) C dX8_keeps_0 0 rfl ?_
  refine a_getR (pc := 1) C dX8_keeps_1 fl_X8_86 tm_0 rfl ?_
  refine a_iconst (pc := 4) (v := 3) C dX8_keeps_4 (by decide) ?_
  refine a_iload_n (pc := 5) C dX8_keeps_5 1 rfl ?_
  refine a_imul (pc := 6) C dX8_keeps_6 ?_
  refine a_aload_n (pc := 7) C dX8_keeps_7 0 rfl ?_
  refine a_getI (pc := 8) C dX8_keeps_8 fl_X8_95 tm_0 rfl ?_
  refine a_iast (pc := 11) C dX8_keeps_11 tm_23 hf (fun M1 hf => ?_)
  refine a_aload_n (pc := 12) C dX8_keeps_12 0 rfl ?_
  refine a_getR (pc := 13) C dX8_keeps_13 fl_X8_86 tm_0 rfl ?_
  refine a_iconst (pc := 16) (v := 3) C dX8_keeps_16 (by decide) ?_
  refine a_iload_n (pc := 17) C dX8_keeps_17 1 rfl ?_
  refine a_imul (pc := 18) C dX8_keeps_18 ?_
  refine a_iconst (pc := 19) (v := 1) C dX8_keeps_19 (by decide) ?_
  refine a_iadd (pc := 20) C dX8_keeps_20 ?_
  refine a_aload_n (pc := 21) C dX8_keeps_21 0 rfl ?_
  refine a_getI (pc := 22) C dX8_keeps_22 fl_X8_102 tm_0 rfl ?_
  refine a_iast (pc := 25) C dX8_keeps_25 tm_23 hf (fun M2 hf => ?_)
  refine a_aload_n (pc := 26) C dX8_keeps_26 0 rfl ?_
  refine a_getR (pc := 27) C dX8_keeps_27 fl_X8_86 tm_0 rfl ?_
  refine a_iconst (pc := 30) (v := 3) C dX8_keeps_30 (by decide) ?_
  refine a_iload_n (pc := 31) C dX8_keeps_31 1 rfl ?_
  refine a_imul (pc := 32) C dX8_keeps_32 ?_
  refine a_iconst (pc := 33) (v := 2) C dX8_keeps_33 (by decide) ?_
  refine a_iadd (pc := 34) C dX8_keeps_34 ?_
  refine a_aload_n (pc := 35) C dX8_keeps_35 0 rfl ?_
  refine a_getI (pc := 36) C dX8_keeps_36 fl_X8_7 tm_0 rfl ?_
  refine a_iast (pc := 39) C dX8_keeps_39 tm_23 hf (fun M3 hf => ?_)
  refine a_iconst (pc := 40) (v := 0) C dX8_keeps_40 (by decide) ?_
  refine a_istore_n (pc := 41) [(2, .int (0 : Int32)), (0, .ref (ad 0)), (1, .int x1)] C dX8_keeps_41 (by decide) rfl ?_
  refine a_sub [1, 2, 0] rfl ?_
  refine a_lp 42 (fun a42 : Int32 × Mem => [(0, .ref (ad 0)), (1, .int x1), (2, .int a42.1)]) (fun a42 : Int32 × Mem => []) (fun a42 : Int32 × Mem => a42.2) (fun k42 a42 hk42 hf => ?_) N ((0 : Int32), M3) hf
  refine a_iload_n (pc := 42) C dX8_keeps_42 2 rfl ?_
  refine a_bipush (pc := 43) (v := 10) C dX8_keeps_43 (by decide) ?_
  refine a_icmp_ge (pc := 45) 136 C dX8_keeps_45 (by decide) hf (fun hf => ?_) (fun hf => ?_)
  · refine a_iconst (pc := 136) (v := 0) C dX8_keeps_136 (by decide) ?_
    refine a_istore_n (pc := 137) [(2, .int (0 : Int32)), (0, .ref (ad 0)), (1, .int x1)] C dX8_keeps_137 (by decide) rfl ?_
    refine a_sub [1, 2, 0] rfl ?_
    refine a_lp 138 (fun a138 : Int32 × Mem => [(0, .ref (ad 0)), (1, .int x1), (2, .int a138.1)]) (fun a138 : Int32 × Mem => []) (fun a138 : Int32 × Mem => a138.2) (fun k138 a138 hk138 hf => ?_) N ((0 : Int32), a42.2) hf
    refine a_iload_n (pc := 138) C dX8_keeps_138 2 rfl ?_
    refine a_bipush (pc := 139) (v := 6) C dX8_keeps_139 (by decide) ?_
    refine a_icmp_ge (pc := 141) 167 C dX8_keeps_141 (by decide) hf (fun hf => ?_) (fun hf => ?_)
    · exact a_vret (pc := 167) C dX8_keeps_167 (Option.some.inj hf)
    · refine a_aload_n (pc := 144) C dX8_keeps_144 0 rfl ?_
      refine a_getR (pc := 145) C dX8_keeps_145 fl_X8_92 tm_0 rfl ?_
      refine a_bipush (pc := 148) (v := 6) C dX8_keeps_148 (by decide) ?_
      refine a_iload_n (pc := 150) C dX8_keeps_150 1 rfl ?_
      refine a_imul (pc := 151) C dX8_keeps_151 ?_
      refine a_iload_n (pc := 152) C dX8_keeps_152 2 rfl ?_
      refine a_iadd (pc := 153) C dX8_keeps_153 ?_
      refine a_aload_n (pc := 154) C dX8_keeps_154 0 rfl ?_
      refine a_getR (pc := 155) C dX8_keeps_155 fl_X8_28 tm_0 rfl ?_
      refine a_iload_n (pc := 158) C dX8_keeps_158 2 rfl ?_
      refine a_lald (pc := 159) C dX8_keeps_159 tm_5 hf (fun hf => ?_)
      refine a_last (pc := 160) C dX8_keeps_160 tm_25 hf (fun M4 hf => ?_)
      refine a_iinc (pc := 161) (v := 1) (fun v5 => [(2, .int v5), (0, .ref (ad 0)), (1, .int x1)]) C dX8_keeps_161 2 rfl (by decide) (by decide) (fun _ => rfl) hf (fun v5 hf => ?_)
      refine a_goto (pc := 164) 138 C dX8_keeps_164 (by decide) ?_
      exact a_sub [1, 2, 0] rfl (hk138 (v5, M4) hf)
  · refine a_aload_n (pc := 48) C dX8_keeps_48 0 rfl ?_
    refine a_getR (pc := 49) C dX8_keeps_49 fl_X8_89 tm_0 rfl ?_
    refine a_bipush (pc := 52) (v := 40) C dX8_keeps_52 (by decide) ?_
    refine a_iload_n (pc := 54) C dX8_keeps_54 1 rfl ?_
    refine a_imul (pc := 55) C dX8_keeps_55 ?_
    refine a_iconst (pc := 56) (v := 4) C dX8_keeps_56 (by decide) ?_
    refine a_iload_n (pc := 57) C dX8_keeps_57 2 rfl ?_
    refine a_imul (pc := 58) C dX8_keeps_58 ?_
    refine a_iadd (pc := 59) C dX8_keeps_59 ?_
    refine a_aload_n (pc := 60) C dX8_keeps_60 0 rfl ?_
    refine a_getR (pc := 61) C dX8_keeps_61 fl_X8_13 tm_0 rfl ?_
    refine a_iload_n (pc := 64) C dX8_keeps_64 2 rfl ?_
    refine a_iald (pc := 65) C dX8_keeps_65 tm_1 hf (fun hf => ?_)
    refine a_iast (pc := 66) C dX8_keeps_66 tm_24 hf (fun M6 hf => ?_)
    refine a_aload_n (pc := 67) C dX8_keeps_67 0 rfl ?_
    refine a_getR (pc := 68) C dX8_keeps_68 fl_X8_89 tm_0 rfl ?_
    refine a_bipush (pc := 71) (v := 40) C dX8_keeps_71 (by decide) ?_
    refine a_iload_n (pc := 73) C dX8_keeps_73 1 rfl ?_
    refine a_imul (pc := 74) C dX8_keeps_74 ?_
    refine a_iconst (pc := 75) (v := 4) C dX8_keeps_75 (by decide) ?_
    refine a_iload_n (pc := 76) C dX8_keeps_76 2 rfl ?_
    refine a_imul (pc := 77) C dX8_keeps_77 ?_
    refine a_iadd (pc := 78) C dX8_keeps_78 ?_
    refine a_iconst (pc := 79) (v := 1) C dX8_keeps_79 (by decide) ?_
    refine a_iadd (pc := 80) C dX8_keeps_80 ?_
    refine a_aload_n (pc := 81) C dX8_keeps_81 0 rfl ?_
    refine a_getR (pc := 82) C dX8_keeps_82 fl_X8_17 tm_0 rfl ?_
    refine a_iload_n (pc := 85) C dX8_keeps_85 2 rfl ?_
    refine a_iald (pc := 86) C dX8_keeps_86 tm_2 hf (fun hf => ?_)
    refine a_iast (pc := 87) C dX8_keeps_87 tm_24 hf (fun M7 hf => ?_)
    refine a_aload_n (pc := 88) C dX8_keeps_88 0 rfl ?_
    refine a_getR (pc := 89) C dX8_keeps_89 fl_X8_89 tm_0 rfl ?_
    refine a_bipush (pc := 92) (v := 40) C dX8_keeps_92 (by decide) ?_
    refine a_iload_n (pc := 94) C dX8_keeps_94 1 rfl ?_
    refine a_imul (pc := 95) C dX8_keeps_95 ?_
    refine a_iconst (pc := 96) (v := 4) C dX8_keeps_96 (by decide) ?_
    refine a_iload_n (pc := 97) C dX8_keeps_97 2 rfl ?_
    refine a_imul (pc := 98) C dX8_keeps_98 ?_
    refine a_iadd (pc := 99) C dX8_keeps_99 ?_
    refine a_iconst (pc := 100) (v := 2) C dX8_keeps_100 (by decide) ?_
    refine a_iadd (pc := 101) C dX8_keeps_101 ?_
    refine a_aload_n (pc := 102) C dX8_keeps_102 0 rfl ?_
    refine a_getR (pc := 103) C dX8_keeps_103 fl_X8_20 tm_0 rfl ?_
    refine a_iload_n (pc := 106) C dX8_keeps_106 2 rfl ?_
    refine a_iald (pc := 107) C dX8_keeps_107 tm_3 hf (fun hf => ?_)
    refine a_iast (pc := 108) C dX8_keeps_108 tm_24 hf (fun M8 hf => ?_)
    refine a_aload_n (pc := 109) C dX8_keeps_109 0 rfl ?_
    refine a_getR (pc := 110) C dX8_keeps_110 fl_X8_89 tm_0 rfl ?_
    refine a_bipush (pc := 113) (v := 40) C dX8_keeps_113 (by decide) ?_
    refine a_iload_n (pc := 115) C dX8_keeps_115 1 rfl ?_
    refine a_imul (pc := 116) C dX8_keeps_116 ?_
    refine a_iconst (pc := 117) (v := 4) C dX8_keeps_117 (by decide) ?_
    refine a_iload_n (pc := 118) C dX8_keeps_118 2 rfl ?_
    refine a_imul (pc := 119) C dX8_keeps_119 ?_
    refine a_iadd (pc := 120) C dX8_keeps_120 ?_
    refine a_iconst (pc := 121) (v := 3) C dX8_keeps_121 (by decide) ?_
    refine a_iadd (pc := 122) C dX8_keeps_122 ?_
    refine a_aload_n (pc := 123) C dX8_keeps_123 0 rfl ?_
    refine a_getR (pc := 124) C dX8_keeps_124 fl_X8_23 tm_0 rfl ?_
    refine a_iload_n (pc := 127) C dX8_keeps_127 2 rfl ?_
    refine a_iald (pc := 128) C dX8_keeps_128 tm_4 hf (fun hf => ?_)
    refine a_iast (pc := 129) C dX8_keeps_129 tm_24 hf (fun M9 hf => ?_)
    refine a_iinc (pc := 130) (v := 1) (fun v10 => [(2, .int v10), (0, .ref (ad 0)), (1, .int x1)]) C dX8_keeps_130 2 rfl (by decide) (by decide) (fun _ => rfl) hf (fun v10 hf => ?_)
    refine a_goto (pc := 133) 42 C dX8_keeps_133 (by decide) ?_
    exact a_sub [1, 2, 0] rfl (hk42 (v10, M9) hf)
theorem dX8_putsBack_0 : decode cX8_putsBack 0 = .ok (.aload_n 0, 1) := by decide +kernel
theorem dX8_putsBack_1 : decode cX8_putsBack 1 = .ok (.aload_n 0, 1) := by decide +kernel
theorem dX8_putsBack_2 : decode cX8_putsBack 2 = .ok (.getfield 86, 3) := by decide +kernel
theorem dX8_putsBack_5 : decode cX8_putsBack 5 = .ok (.iconst 3, 1) := by decide +kernel
theorem dX8_putsBack_6 : decode cX8_putsBack 6 = .ok (.iload_n 1, 1) := by decide +kernel
theorem dX8_putsBack_7 : decode cX8_putsBack 7 = .ok (.imul, 1) := by decide +kernel
theorem dX8_putsBack_8 : decode cX8_putsBack 8 = .ok (.iaload, 1) := by decide +kernel
theorem dX8_putsBack_9 : decode cX8_putsBack 9 = .ok (.putfield 95, 3) := by decide +kernel
theorem dX8_putsBack_12 : decode cX8_putsBack 12 = .ok (.aload_n 0, 1) := by decide +kernel
theorem dX8_putsBack_13 : decode cX8_putsBack 13 = .ok (.aload_n 0, 1) := by decide +kernel
theorem dX8_putsBack_14 : decode cX8_putsBack 14 = .ok (.getfield 86, 3) := by decide +kernel
theorem dX8_putsBack_17 : decode cX8_putsBack 17 = .ok (.iconst 3, 1) := by decide +kernel
theorem dX8_putsBack_18 : decode cX8_putsBack 18 = .ok (.iload_n 1, 1) := by decide +kernel
theorem dX8_putsBack_19 : decode cX8_putsBack 19 = .ok (.imul, 1) := by decide +kernel
theorem dX8_putsBack_20 : decode cX8_putsBack 20 = .ok (.iconst 1, 1) := by decide +kernel
theorem dX8_putsBack_21 : decode cX8_putsBack 21 = .ok (.iadd, 1) := by decide +kernel
theorem dX8_putsBack_22 : decode cX8_putsBack 22 = .ok (.iaload, 1) := by decide +kernel
theorem dX8_putsBack_23 : decode cX8_putsBack 23 = .ok (.putfield 102, 3) := by decide +kernel
theorem dX8_putsBack_26 : decode cX8_putsBack 26 = .ok (.aload_n 0, 1) := by decide +kernel
theorem dX8_putsBack_27 : decode cX8_putsBack 27 = .ok (.aload_n 0, 1) := by decide +kernel
theorem dX8_putsBack_28 : decode cX8_putsBack 28 = .ok (.getfield 86, 3) := by decide +kernel
theorem dX8_putsBack_31 : decode cX8_putsBack 31 = .ok (.iconst 3, 1) := by decide +kernel
theorem dX8_putsBack_32 : decode cX8_putsBack 32 = .ok (.iload_n 1, 1) := by decide +kernel
theorem dX8_putsBack_33 : decode cX8_putsBack 33 = .ok (.imul, 1) := by decide +kernel
theorem dX8_putsBack_34 : decode cX8_putsBack 34 = .ok (.iconst 2, 1) := by decide +kernel
theorem dX8_putsBack_35 : decode cX8_putsBack 35 = .ok (.iadd, 1) := by decide +kernel
theorem dX8_putsBack_36 : decode cX8_putsBack 36 = .ok (.iaload, 1) := by decide +kernel
theorem dX8_putsBack_37 : decode cX8_putsBack 37 = .ok (.putfield 7, 3) := by decide +kernel
theorem dX8_putsBack_40 : decode cX8_putsBack 40 = .ok (.iconst 0, 1) := by decide +kernel
theorem dX8_putsBack_41 : decode cX8_putsBack 41 = .ok (.istore_n 2, 1) := by decide +kernel
theorem dX8_putsBack_42 : decode cX8_putsBack 42 = .ok (.iload_n 2, 1) := by decide +kernel
theorem dX8_putsBack_43 : decode cX8_putsBack 43 = .ok (.bipush 10, 2) := by decide +kernel
theorem dX8_putsBack_45 : decode cX8_putsBack 45 = .ok (.if_icmp .ge 91, 3) := by decide +kernel
theorem dX8_putsBack_48 : decode cX8_putsBack 48 = .ok (.aload_n 0, 1) := by decide +kernel
theorem dX8_putsBack_49 : decode cX8_putsBack 49 = .ok (.getfield 13, 3) := by decide +kernel
theorem dX8_putsBack_52 : decode cX8_putsBack 52 = .ok (.iload_n 2, 1) := by decide +kernel
theorem dX8_putsBack_53 : decode cX8_putsBack 53 = .ok (.aload_n 0, 1) := by decide +kernel
theorem dX8_putsBack_54 : decode cX8_putsBack 54 = .ok (.getfield 89, 3) := by decide +kernel
theorem dX8_putsBack_57 : decode cX8_putsBack 57 = .ok (.bipush 40, 2) := by decide +kernel
theorem dX8_putsBack_59 : decode cX8_putsBack 59 = .ok (.iload_n 1, 1) := by decide +kernel
theorem dX8_putsBack_60 : decode cX8_putsBack 60 = .ok (.imul, 1) := by decide +kernel
theorem dX8_putsBack_61 : decode cX8_putsBack 61 = .ok (.iconst 4, 1) := by decide +kernel
theorem dX8_putsBack_62 : decode cX8_putsBack 62 = .ok (.iload_n 2, 1) := by decide +kernel
theorem dX8_putsBack_63 : decode cX8_putsBack 63 = .ok (.imul, 1) := by decide +kernel
theorem dX8_putsBack_64 : decode cX8_putsBack 64 = .ok (.iadd, 1) := by decide +kernel
theorem dX8_putsBack_65 : decode cX8_putsBack 65 = .ok (.iaload, 1) := by decide +kernel
theorem dX8_putsBack_66 : decode cX8_putsBack 66 = .ok (.iastore, 1) := by decide +kernel
theorem dX8_putsBack_67 : decode cX8_putsBack 67 = .ok (.aload_n 0, 1) := by decide +kernel
theorem dX8_putsBack_68 : decode cX8_putsBack 68 = .ok (.getfield 17, 3) := by decide +kernel
theorem dX8_putsBack_71 : decode cX8_putsBack 71 = .ok (.iload_n 2, 1) := by decide +kernel
theorem dX8_putsBack_72 : decode cX8_putsBack 72 = .ok (.aload_n 0, 1) := by decide +kernel
theorem dX8_putsBack_73 : decode cX8_putsBack 73 = .ok (.getfield 89, 3) := by decide +kernel
theorem dX8_putsBack_76 : decode cX8_putsBack 76 = .ok (.bipush 40, 2) := by decide +kernel
theorem dX8_putsBack_78 : decode cX8_putsBack 78 = .ok (.iload_n 1, 1) := by decide +kernel
theorem dX8_putsBack_79 : decode cX8_putsBack 79 = .ok (.imul, 1) := by decide +kernel
theorem dX8_putsBack_80 : decode cX8_putsBack 80 = .ok (.iconst 4, 1) := by decide +kernel
theorem dX8_putsBack_81 : decode cX8_putsBack 81 = .ok (.iload_n 2, 1) := by decide +kernel
theorem dX8_putsBack_82 : decode cX8_putsBack 82 = .ok (.imul, 1) := by decide +kernel
theorem dX8_putsBack_83 : decode cX8_putsBack 83 = .ok (.iadd, 1) := by decide +kernel
theorem dX8_putsBack_84 : decode cX8_putsBack 84 = .ok (.iconst 1, 1) := by decide +kernel
theorem dX8_putsBack_85 : decode cX8_putsBack 85 = .ok (.iadd, 1) := by decide +kernel
theorem dX8_putsBack_86 : decode cX8_putsBack 86 = .ok (.iaload, 1) := by decide +kernel
theorem dX8_putsBack_87 : decode cX8_putsBack 87 = .ok (.iastore, 1) := by decide +kernel
theorem dX8_putsBack_88 : decode cX8_putsBack 88 = .ok (.aload_n 0, 1) := by decide +kernel
theorem dX8_putsBack_89 : decode cX8_putsBack 89 = .ok (.getfield 20, 3) := by decide +kernel
theorem dX8_putsBack_92 : decode cX8_putsBack 92 = .ok (.iload_n 2, 1) := by decide +kernel
theorem dX8_putsBack_93 : decode cX8_putsBack 93 = .ok (.aload_n 0, 1) := by decide +kernel
theorem dX8_putsBack_94 : decode cX8_putsBack 94 = .ok (.getfield 89, 3) := by decide +kernel
theorem dX8_putsBack_97 : decode cX8_putsBack 97 = .ok (.bipush 40, 2) := by decide +kernel
theorem dX8_putsBack_99 : decode cX8_putsBack 99 = .ok (.iload_n 1, 1) := by decide +kernel
theorem dX8_putsBack_100 : decode cX8_putsBack 100 = .ok (.imul, 1) := by decide +kernel
theorem dX8_putsBack_101 : decode cX8_putsBack 101 = .ok (.iconst 4, 1) := by decide +kernel
theorem dX8_putsBack_102 : decode cX8_putsBack 102 = .ok (.iload_n 2, 1) := by decide +kernel
theorem dX8_putsBack_103 : decode cX8_putsBack 103 = .ok (.imul, 1) := by decide +kernel
theorem dX8_putsBack_104 : decode cX8_putsBack 104 = .ok (.iadd, 1) := by decide +kernel
theorem dX8_putsBack_105 : decode cX8_putsBack 105 = .ok (.iconst 2, 1) := by decide +kernel
theorem dX8_putsBack_106 : decode cX8_putsBack 106 = .ok (.iadd, 1) := by decide +kernel
theorem dX8_putsBack_107 : decode cX8_putsBack 107 = .ok (.iaload, 1) := by decide +kernel
theorem dX8_putsBack_108 : decode cX8_putsBack 108 = .ok (.iastore, 1) := by decide +kernel
theorem dX8_putsBack_109 : decode cX8_putsBack 109 = .ok (.aload_n 0, 1) := by decide +kernel
theorem dX8_putsBack_110 : decode cX8_putsBack 110 = .ok (.getfield 23, 3) := by decide +kernel
theorem dX8_putsBack_113 : decode cX8_putsBack 113 = .ok (.iload_n 2, 1) := by decide +kernel
theorem dX8_putsBack_114 : decode cX8_putsBack 114 = .ok (.aload_n 0, 1) := by decide +kernel
theorem dX8_putsBack_115 : decode cX8_putsBack 115 = .ok (.getfield 89, 3) := by decide +kernel
theorem dX8_putsBack_118 : decode cX8_putsBack 118 = .ok (.bipush 40, 2) := by decide +kernel
theorem dX8_putsBack_120 : decode cX8_putsBack 120 = .ok (.iload_n 1, 1) := by decide +kernel
theorem dX8_putsBack_121 : decode cX8_putsBack 121 = .ok (.imul, 1) := by decide +kernel
theorem dX8_putsBack_122 : decode cX8_putsBack 122 = .ok (.iconst 4, 1) := by decide +kernel
theorem dX8_putsBack_123 : decode cX8_putsBack 123 = .ok (.iload_n 2, 1) := by decide +kernel
theorem dX8_putsBack_124 : decode cX8_putsBack 124 = .ok (.imul, 1) := by decide +kernel
theorem dX8_putsBack_125 : decode cX8_putsBack 125 = .ok (.iadd, 1) := by decide +kernel
theorem dX8_putsBack_126 : decode cX8_putsBack 126 = .ok (.iconst 3, 1) := by decide +kernel
theorem dX8_putsBack_127 : decode cX8_putsBack 127 = .ok (.iadd, 1) := by decide +kernel
theorem dX8_putsBack_128 : decode cX8_putsBack 128 = .ok (.iaload, 1) := by decide +kernel
theorem dX8_putsBack_129 : decode cX8_putsBack 129 = .ok (.iastore, 1) := by decide +kernel
theorem dX8_putsBack_130 : decode cX8_putsBack 130 = .ok (.iinc 2 1, 3) := by decide +kernel
theorem dX8_putsBack_133 : decode cX8_putsBack 133 = .ok (.goto (-91), 3) := by decide +kernel
theorem dX8_putsBack_136 : decode cX8_putsBack 136 = .ok (.iconst 0, 1) := by decide +kernel
theorem dX8_putsBack_137 : decode cX8_putsBack 137 = .ok (.istore_n 2, 1) := by decide +kernel
theorem dX8_putsBack_138 : decode cX8_putsBack 138 = .ok (.iload_n 2, 1) := by decide +kernel
theorem dX8_putsBack_139 : decode cX8_putsBack 139 = .ok (.bipush 6, 2) := by decide +kernel
theorem dX8_putsBack_141 : decode cX8_putsBack 141 = .ok (.if_icmp .ge 26, 3) := by decide +kernel
theorem dX8_putsBack_144 : decode cX8_putsBack 144 = .ok (.aload_n 0, 1) := by decide +kernel
theorem dX8_putsBack_145 : decode cX8_putsBack 145 = .ok (.getfield 28, 3) := by decide +kernel
theorem dX8_putsBack_148 : decode cX8_putsBack 148 = .ok (.iload_n 2, 1) := by decide +kernel
theorem dX8_putsBack_149 : decode cX8_putsBack 149 = .ok (.aload_n 0, 1) := by decide +kernel
theorem dX8_putsBack_150 : decode cX8_putsBack 150 = .ok (.getfield 92, 3) := by decide +kernel
theorem dX8_putsBack_153 : decode cX8_putsBack 153 = .ok (.bipush 6, 2) := by decide +kernel
theorem dX8_putsBack_155 : decode cX8_putsBack 155 = .ok (.iload_n 1, 1) := by decide +kernel
theorem dX8_putsBack_156 : decode cX8_putsBack 156 = .ok (.imul, 1) := by decide +kernel
theorem dX8_putsBack_157 : decode cX8_putsBack 157 = .ok (.iload_n 2, 1) := by decide +kernel
theorem dX8_putsBack_158 : decode cX8_putsBack 158 = .ok (.iadd, 1) := by decide +kernel
theorem dX8_putsBack_159 : decode cX8_putsBack 159 = .ok (.laload, 1) := by decide +kernel
theorem dX8_putsBack_160 : decode cX8_putsBack 160 = .ok (.lastore, 1) := by decide +kernel
theorem dX8_putsBack_161 : decode cX8_putsBack 161 = .ok (.iinc 2 1, 3) := by decide +kernel
theorem dX8_putsBack_164 : decode cX8_putsBack 164 = .ok (.goto (-26), 3) := by decide +kernel
theorem dX8_putsBack_167 : decode cX8_putsBack 167 = .ok (.return_, 1) := by decide +kernel
def f_X8_putsBack (N : Nat) (x1 : Int32) (M : Mem) : Option (Mem) := ck (inb ((3 : Int32) * x1) 6) (nm (setI M 0 0 (M.1 23 ((3 : Int32) * x1).toNatClampNeg)) (fun M1 => ck (inb (((3 : Int32) * x1) + (1 : Int32)) 6) (nm (setI M1 0 1 (M1.1 23 (((3 : Int32) * x1) + (1 : Int32)).toNatClampNeg)) (fun M2 => ck (inb (((3 : Int32) * x1) + (2 : Int32)) 6) (nm (setI M2 0 2 (M2.1 23 (((3 : Int32) * x1) + (2 : Int32)).toNatClampNeg)) (fun M3 => lp (fun (k42 : (Int32 × Mem) → Option (Mem)) (a42 : Int32 × Mem) => if (10 : Int32) ≤ a42.1 then (lp (fun (k138 : (Int32 × Mem) → Option (Mem)) (a138 : Int32 × Mem) => if (6 : Int32) ≤ a138.1 then (some a138.2) else (ck (inb (((6 : Int32) * x1) + a138.1) 12) (ck (inb a138.1 6) (nm (setJ a138.2 5 a138.1.toNatClampNeg (a138.2.2 25 (((6 : Int32) * x1) + a138.1).toNatClampNeg)) (fun M4 => nm (a138.1 + (1 : Int32)) (fun v5 => k138 (v5, M4))))))) N ((0 : Int32), a42.2)) else (ck (inb (((40 : Int32) * x1) + ((4 : Int32) * a42.1)) 80) (ck (inb a42.1 10) (nm (setI a42.2 1 a42.1.toNatClampNeg (a42.2.1 24 (((40 : Int32) * x1) + ((4 : Int32) * a42.1)).toNatClampNeg)) (fun M6 => ck (inb ((((40 : Int32) * x1) + ((4 : Int32) * a42.1)) + (1 : Int32)) 80) (ck (inb a42.1 10) (nm (setI M6 2 a42.1.toNatClampNeg (M6.1 24 ((((40 : Int32) * x1) + ((4 : Int32) * a42.1)) + (1 : Int32)).toNatClampNeg)) (fun M7 => ck (inb ((((40 : Int32) * x1) + ((4 : Int32) * a42.1)) + (2 : Int32)) 80) (ck (inb a42.1 10) (nm (setI M7 3 a42.1.toNatClampNeg (M7.1 24 ((((40 : Int32) * x1) + ((4 : Int32) * a42.1)) + (2 : Int32)).toNatClampNeg)) (fun M8 => ck (inb ((((40 : Int32) * x1) + ((4 : Int32) * a42.1)) + (3 : Int32)) 80) (ck (inb a42.1 10) (nm (setI M8 4 a42.1.toNatClampNeg (M8.1 24 ((((40 : Int32) * x1) + ((4 : Int32) * a42.1)) + (3 : Int32)).toNatClampNeg)) (fun M9 => nm (a42.1 + (1 : Int32)) (fun v10 => k42 (v10, M9)))))))))))))))) N ((0 : Int32), M3)))))))
set_option maxRecDepth 100000 in
set_option maxHeartbeats 4000000 in
theorem c_X8_putsBack {l : Launch} {D : va_G} {ac : Nat → ClassId} {A : Nat → Prop} {ad : Nat → Nat} {rest : va_W} (N : Nat) (x1 : Int32)  (M : Mem)  (M0 : Mem) (hf : f_X8_putsBack N x1 M = some M0) : CtV l D ac A tabM ad rest yX8_putsBack cX8_putsBack 3  1 [.ref (ad 0), .int x1] M  M0 := by
  refine ct_ofV (own := RX8) (by decide +kernel) rfl (Nat.le_of_ble_eq_true rfl) ?_
  intro p e s m args below meth c C
  unfold f_X8_putsBack at hf
  refine a_L (L' := [(0, .ref (ad 0)), (1, .int x1)]) rfl ?_
  refine a_aload_n (pc := 0) C dX8_putsBack_0 0 rfl ?_
  refine a_aload_n (pc := 1) C dX8_putsBack_1 0 rfl ?_
  refine a_getR (pc := 2) C dX8_putsBack_2 fl_X8_86 tm_0 rfl ?_
  refine a_iconst (pc := 5) (v := 3) C dX8_putsBack_5 (by decide) ?_
  refine a_iload_n (pc := 6) C dX8_putsBack_6 1 rfl ?_
  refine a_imul (pc := 7) C dX8_putsBack_7 ?_
  refine a_iald (pc := 8) C dX8_putsBack_8 tm_23 hf (fun hf => ?_)
  refine a_putI (pc := 9) C dX8_putsBack_9 fl_X8_95 tm_0 rfl hf (fun M1 hf => ?_)
  refine a_aload_n (pc := 12) C dX8_putsBack_12 0 rfl ?_
  refine a_aload_n (pc := 13) C dX8_putsBack_13 0 rfl ?_
  refine a_getR (pc := 14) C dX8_putsBack_14 fl_X8_86 tm_0 rfl ?_
  refine a_iconst (pc := 17) (v := 3) C dX8_putsBack_17 (by decide) ?_
  refine a_iload_n (pc := 18) C dX8_putsBack_18 1 rfl ?_
  refine a_imul (pc := 19) C dX8_putsBack_19 ?_
  refine a_iconst (pc := 20) (v := 1) C dX8_putsBack_20 (by decide) ?_
  refine a_iadd (pc := 21) C dX8_putsBack_21 ?_
  refine a_iald (pc := 22) C dX8_putsBack_22 tm_23 hf (fun hf => ?_)
  refine a_putI (pc := 23) C dX8_putsBack_23 fl_X8_102 tm_0 rfl hf (fun M2 hf => ?_)
  refine a_aload_n (pc := 26) C dX8_putsBack_26 0 rfl ?_
  refine a_aload_n (pc := 27) C dX8_putsBack_27 0 rfl ?_
  refine a_getR (pc := 28) C dX8_putsBack_28 fl_X8_86 tm_0 rfl ?_
  refine a_iconst (pc := 31) (v := 3) C dX8_putsBack_31 (by decide) ?_
  refine a_iload_n (pc := 32) C dX8_putsBack_32 1 rfl ?_
  refine a_imul (pc := 33) C dX8_putsBack_33 ?_
  refine a_iconst (pc := 34) (v := 2) C dX8_putsBack_34 (by decide) ?_
  refine a_iadd (pc := 35) C dX8_putsBack_35 ?_
  refine a_iald (pc := 36) C dX8_putsBack_36 tm_23 hf (fun hf => ?_)
  refine a_putI (pc := 37) C dX8_putsBack_37 fl_X8_7 tm_0 rfl hf (fun M3 hf => ?_)
  refine a_iconst (pc := 40) (v := 0) C dX8_putsBack_40 (by decide) ?_
  refine a_istore_n (pc := 41) [(2, .int (0 : Int32)), (0, .ref (ad 0)), (1, .int x1)] C dX8_putsBack_41 (by decide) rfl ?_
  refine a_sub [1, 2, 0] rfl ?_
  refine a_lp 42 (fun a42 : Int32 × Mem => [(0, .ref (ad 0)), (1, .int x1), (2, .int a42.1)]) (fun a42 : Int32 × Mem => []) (fun a42 : Int32 × Mem => a42.2) (fun k42 a42 hk42 hf => ?_) N ((0 : Int32), M3) hf
  refine a_iload_n (pc := 42) C dX8_putsBack_42 2 rfl ?_
  refine a_bipush (pc := 43) (v := 10) C dX8_putsBack_43 (by decide) ?_
  refine a_icmp_ge (pc := 45) 136 C dX8_putsBack_45 (by decide) hf (fun hf => ?_) (fun hf => ?_)
  · refine a_iconst (pc := 136) (v := 0) C dX8_putsBack_136 (by decide) ?_
    refine a_istore_n (pc := 137) [(2, .int (0 : Int32)), (0, .ref (ad 0)), (1, .int x1)] C dX8_putsBack_137 (by decide) rfl ?_
    refine a_sub [1, 2, 0] rfl ?_
    refine a_lp 138 (fun a138 : Int32 × Mem => [(0, .ref (ad 0)), (1, .int x1), (2, .int a138.1)]) (fun a138 : Int32 × Mem => []) (fun a138 : Int32 × Mem => a138.2) (fun k138 a138 hk138 hf => ?_) N ((0 : Int32), a42.2) hf
    refine a_iload_n (pc := 138) C dX8_putsBack_138 2 rfl ?_
    refine a_bipush (pc := 139) (v := 6) C dX8_putsBack_139 (by decide) ?_
    refine a_icmp_ge (pc := 141) 167 C dX8_putsBack_141 (by decide) hf (fun hf => ?_) (fun hf => ?_)
    · exact a_vret (pc := 167) C dX8_putsBack_167 (Option.some.inj hf)
    · refine a_aload_n (pc := 144) C dX8_putsBack_144 0 rfl ?_
      refine a_getR (pc := 145) C dX8_putsBack_145 fl_X8_28 tm_0 rfl ?_
      refine a_iload_n (pc := 148) C dX8_putsBack_148 2 rfl ?_
      refine a_aload_n (pc := 149) C dX8_putsBack_149 0 rfl ?_
      refine a_getR (pc := 150) C dX8_putsBack_150 fl_X8_92 tm_0 rfl ?_
      refine a_bipush (pc := 153) (v := 6) C dX8_putsBack_153 (by decide) ?_
      refine a_iload_n (pc := 155) C dX8_putsBack_155 1 rfl ?_
      refine a_imul (pc := 156) C dX8_putsBack_156 ?_
      refine a_iload_n (pc := 157) C dX8_putsBack_157 2 rfl ?_
      refine a_iadd (pc := 158) C dX8_putsBack_158 ?_
      refine a_lald (pc := 159) C dX8_putsBack_159 tm_25 hf (fun hf => ?_)
      refine a_last (pc := 160) C dX8_putsBack_160 tm_5 hf (fun M4 hf => ?_)
      refine a_iinc (pc := 161) (v := 1) (fun v5 => [(2, .int v5), (0, .ref (ad 0)), (1, .int x1)]) C dX8_putsBack_161 2 rfl (by decide) (by decide) (fun _ => rfl) hf (fun v5 hf => ?_)
      refine a_goto (pc := 164) 138 C dX8_putsBack_164 (by decide) ?_
      exact a_sub [1, 2, 0] rfl (hk138 (v5, M4) hf)
  · refine a_aload_n (pc := 48) C dX8_putsBack_48 0 rfl ?_
    refine a_getR (pc := 49) C dX8_putsBack_49 fl_X8_13 tm_0 rfl ?_
    refine a_iload_n (pc := 52) C dX8_putsBack_52 2 rfl ?_
    refine a_aload_n (pc := 53) C dX8_putsBack_53 0 rfl ?_
    refine a_getR (pc := 54) C dX8_putsBack_54 fl_X8_89 tm_0 rfl ?_
    refine a_bipush (pc := 57) (v := 40) C dX8_putsBack_57 (by decide) ?_
    refine a_iload_n (pc := 59) C dX8_putsBack_59 1 rfl ?_
    refine a_imul (pc := 60) C dX8_putsBack_60 ?_
    refine a_iconst (pc := 61) (v := 4) C dX8_putsBack_61 (by decide) ?_
    refine a_iload_n (pc := 62) C dX8_putsBack_62 2 rfl ?_
    refine a_imul (pc := 63) C dX8_putsBack_63 ?_
    refine a_iadd (pc := 64) C dX8_putsBack_64 ?_
    refine a_iald (pc := 65) C dX8_putsBack_65 tm_24 hf (fun hf => ?_)
    refine a_iast (pc := 66) C dX8_putsBack_66 tm_1 hf (fun M6 hf => ?_)
    refine a_aload_n (pc := 67) C dX8_putsBack_67 0 rfl ?_
    refine a_getR (pc := 68) C dX8_putsBack_68 fl_X8_17 tm_0 rfl ?_
    refine a_iload_n (pc := 71) C dX8_putsBack_71 2 rfl ?_
    refine a_aload_n (pc := 72) C dX8_putsBack_72 0 rfl ?_
    refine a_getR (pc := 73) C dX8_putsBack_73 fl_X8_89 tm_0 rfl ?_
    refine a_bipush (pc := 76) (v := 40) C dX8_putsBack_76 (by decide) ?_
    refine a_iload_n (pc := 78) C dX8_putsBack_78 1 rfl ?_
    refine a_imul (pc := 79) C dX8_putsBack_79 ?_
    refine a_iconst (pc := 80) (v := 4) C dX8_putsBack_80 (by decide) ?_
    refine a_iload_n (pc := 81) C dX8_putsBack_81 2 rfl ?_
    refine a_imul (pc := 82) C dX8_putsBack_82 ?_
    refine a_iadd (pc := 83) C dX8_putsBack_83 ?_
    refine a_iconst (pc := 84) (v := 1) C dX8_putsBack_84 (by decide) ?_
    refine a_iadd (pc := 85) C dX8_putsBack_85 ?_
    refine a_iald (pc := 86) C dX8_putsBack_86 tm_24 hf (fun hf => ?_)
    refine a_iast (pc := 87) C dX8_putsBack_87 tm_2 hf (fun M7 hf => ?_)
    refine a_aload_n (pc := 88) C dX8_putsBack_88 0 rfl ?_
    refine a_getR (pc := 89) C dX8_putsBack_89 fl_X8_20 tm_0 rfl ?_
    refine a_iload_n (pc := 92) C dX8_putsBack_92 2 rfl ?_
    refine a_aload_n (pc := 93) C dX8_putsBack_93 0 rfl ?_
    refine a_getR (pc := 94) C dX8_putsBack_94 fl_X8_89 tm_0 rfl ?_
    refine a_bipush (pc := 97) (v := 40) C dX8_putsBack_97 (by decide) ?_
    refine a_iload_n (pc := 99) C dX8_putsBack_99 1 rfl ?_
    refine a_imul (pc := 100) C dX8_putsBack_100 ?_
    refine a_iconst (pc := 101) (v := 4) C dX8_putsBack_101 (by decide) ?_
    refine a_iload_n (pc := 102) C dX8_putsBack_102 2 rfl ?_
    refine a_imul (pc := 103) C dX8_putsBack_103 ?_
    refine a_iadd (pc := 104) C dX8_putsBack_104 ?_
    refine a_iconst (pc := 105) (v := 2) C dX8_putsBack_105 (by decide) ?_
    refine a_iadd (pc := 106) C dX8_putsBack_106 ?_
    refine a_iald (pc := 107) C dX8_putsBack_107 tm_24 hf (fun hf => ?_)
    refine a_iast (pc := 108) C dX8_putsBack_108 tm_3 hf (fun M8 hf => ?_)
    refine a_aload_n (pc := 109) C dX8_putsBack_109 0 rfl ?_
    refine a_getR (pc := 110) C dX8_putsBack_110 fl_X8_23 tm_0 rfl ?_
    refine a_iload_n (pc := 113) C dX8_putsBack_113 2 rfl ?_
    refine a_aload_n (pc := 114) C dX8_putsBack_114 0 rfl ?_
    refine a_getR (pc := 115) C dX8_putsBack_115 fl_X8_89 tm_0 rfl ?_
    refine a_bipush (pc := 118) (v := 40) C dX8_putsBack_118 (by decide) ?_
    refine a_iload_n (pc := 120) C dX8_putsBack_120 1 rfl ?_
    refine a_imul (pc := 121) C dX8_putsBack_121 ?_
    refine a_iconst (pc := 122) (v := 4) C dX8_putsBack_122 (by decide) ?_
    refine a_iload_n (pc := 123) C dX8_putsBack_123 2 rfl ?_
    refine a_imul (pc := 124) C dX8_putsBack_124 ?_
    refine a_iadd (pc := 125) C dX8_putsBack_125 ?_
    refine a_iconst (pc := 126) (v := 3) C dX8_putsBack_126 (by decide) ?_
    refine a_iadd (pc := 127) C dX8_putsBack_127 ?_
    refine a_iald (pc := 128) C dX8_putsBack_128 tm_24 hf (fun hf => ?_)
    refine a_iast (pc := 129) C dX8_putsBack_129 tm_4 hf (fun M9 hf => ?_)
    refine a_iinc (pc := 130) (v := 1) (fun v10 => [(2, .int v10), (0, .ref (ad 0)), (1, .int x1)]) C dX8_putsBack_130 2 rfl (by decide) (by decide) (fun _ => rfl) hf (fun v10 hf => ?_)
    refine a_goto (pc := 133) 42 C dX8_putsBack_133 (by decide) ?_
    exact a_sub [1, 2, 0] rfl (hk42 (v10, M9) hf)
theorem dJ6_bitCount_0f7a4_0 : decode cJ6_bitCount_0f7a4 0 = .ok (.iload_n 0, 1) := by decide +kernel
theorem dJ6_bitCount_0f7a4_1 : decode cJ6_bitCount_0f7a4 1 = .ok (.iload_n 0, 1) := by decide +kernel
theorem dJ6_bitCount_0f7a4_2 : decode cJ6_bitCount_0f7a4 2 = .ok (.iconst 1, 1) := by decide +kernel
theorem dJ6_bitCount_0f7a4_3 : decode cJ6_bitCount_0f7a4 3 = .ok (.iushr, 1) := by decide +kernel
theorem dJ6_bitCount_0f7a4_4 : decode cJ6_bitCount_0f7a4 4 = .ok (.ldc_w 265, 3) := by decide +kernel
theorem dJ6_bitCount_0f7a4_7 : decode cJ6_bitCount_0f7a4 7 = .ok (.iand, 1) := by decide +kernel
theorem dJ6_bitCount_0f7a4_8 : decode cJ6_bitCount_0f7a4 8 = .ok (.isub, 1) := by decide +kernel
theorem dJ6_bitCount_0f7a4_9 : decode cJ6_bitCount_0f7a4 9 = .ok (.istore_n 0, 1) := by decide +kernel
theorem dJ6_bitCount_0f7a4_10 : decode cJ6_bitCount_0f7a4 10 = .ok (.iload_n 0, 1) := by decide +kernel
theorem dJ6_bitCount_0f7a4_11 : decode cJ6_bitCount_0f7a4 11 = .ok (.ldc_w 266, 3) := by decide +kernel
theorem dJ6_bitCount_0f7a4_14 : decode cJ6_bitCount_0f7a4 14 = .ok (.iand, 1) := by decide +kernel
theorem dJ6_bitCount_0f7a4_15 : decode cJ6_bitCount_0f7a4 15 = .ok (.iload_n 0, 1) := by decide +kernel
theorem dJ6_bitCount_0f7a4_16 : decode cJ6_bitCount_0f7a4 16 = .ok (.iconst 2, 1) := by decide +kernel
theorem dJ6_bitCount_0f7a4_17 : decode cJ6_bitCount_0f7a4 17 = .ok (.iushr, 1) := by decide +kernel
theorem dJ6_bitCount_0f7a4_18 : decode cJ6_bitCount_0f7a4 18 = .ok (.ldc_w 266, 3) := by decide +kernel
theorem dJ6_bitCount_0f7a4_21 : decode cJ6_bitCount_0f7a4 21 = .ok (.iand, 1) := by decide +kernel
theorem dJ6_bitCount_0f7a4_22 : decode cJ6_bitCount_0f7a4 22 = .ok (.iadd, 1) := by decide +kernel
theorem dJ6_bitCount_0f7a4_23 : decode cJ6_bitCount_0f7a4 23 = .ok (.istore_n 0, 1) := by decide +kernel
theorem dJ6_bitCount_0f7a4_24 : decode cJ6_bitCount_0f7a4 24 = .ok (.iload_n 0, 1) := by decide +kernel
theorem dJ6_bitCount_0f7a4_25 : decode cJ6_bitCount_0f7a4 25 = .ok (.iload_n 0, 1) := by decide +kernel
theorem dJ6_bitCount_0f7a4_26 : decode cJ6_bitCount_0f7a4 26 = .ok (.iconst 4, 1) := by decide +kernel
theorem dJ6_bitCount_0f7a4_27 : decode cJ6_bitCount_0f7a4 27 = .ok (.iushr, 1) := by decide +kernel
theorem dJ6_bitCount_0f7a4_28 : decode cJ6_bitCount_0f7a4 28 = .ok (.iadd, 1) := by decide +kernel
theorem dJ6_bitCount_0f7a4_29 : decode cJ6_bitCount_0f7a4 29 = .ok (.ldc_w 267, 3) := by decide +kernel
theorem dJ6_bitCount_0f7a4_32 : decode cJ6_bitCount_0f7a4 32 = .ok (.iand, 1) := by decide +kernel
theorem dJ6_bitCount_0f7a4_33 : decode cJ6_bitCount_0f7a4 33 = .ok (.istore_n 0, 1) := by decide +kernel
theorem dJ6_bitCount_0f7a4_34 : decode cJ6_bitCount_0f7a4 34 = .ok (.iload_n 0, 1) := by decide +kernel
theorem dJ6_bitCount_0f7a4_35 : decode cJ6_bitCount_0f7a4 35 = .ok (.iload_n 0, 1) := by decide +kernel
theorem dJ6_bitCount_0f7a4_36 : decode cJ6_bitCount_0f7a4 36 = .ok (.bipush 8, 2) := by decide +kernel
theorem dJ6_bitCount_0f7a4_38 : decode cJ6_bitCount_0f7a4 38 = .ok (.iushr, 1) := by decide +kernel
theorem dJ6_bitCount_0f7a4_39 : decode cJ6_bitCount_0f7a4 39 = .ok (.iadd, 1) := by decide +kernel
theorem dJ6_bitCount_0f7a4_40 : decode cJ6_bitCount_0f7a4 40 = .ok (.istore_n 0, 1) := by decide +kernel
theorem dJ6_bitCount_0f7a4_41 : decode cJ6_bitCount_0f7a4 41 = .ok (.iload_n 0, 1) := by decide +kernel
theorem dJ6_bitCount_0f7a4_42 : decode cJ6_bitCount_0f7a4 42 = .ok (.iload_n 0, 1) := by decide +kernel
theorem dJ6_bitCount_0f7a4_43 : decode cJ6_bitCount_0f7a4 43 = .ok (.bipush 16, 2) := by decide +kernel
theorem dJ6_bitCount_0f7a4_45 : decode cJ6_bitCount_0f7a4 45 = .ok (.iushr, 1) := by decide +kernel
theorem dJ6_bitCount_0f7a4_46 : decode cJ6_bitCount_0f7a4 46 = .ok (.iadd, 1) := by decide +kernel
theorem dJ6_bitCount_0f7a4_47 : decode cJ6_bitCount_0f7a4 47 = .ok (.istore_n 0, 1) := by decide +kernel
theorem dJ6_bitCount_0f7a4_48 : decode cJ6_bitCount_0f7a4 48 = .ok (.iload_n 0, 1) := by decide +kernel
theorem dJ6_bitCount_0f7a4_49 : decode cJ6_bitCount_0f7a4 49 = .ok (.bipush 63, 2) := by decide +kernel
theorem dJ6_bitCount_0f7a4_51 : decode cJ6_bitCount_0f7a4 51 = .ok (.iand, 1) := by decide +kernel
theorem dJ6_bitCount_0f7a4_52 : decode cJ6_bitCount_0f7a4 52 = .ok (.ireturn, 1) := by decide +kernel
def f_J6_bitCount_0f7a4 (N : Nat) (x0 : Int32) (M : Mem) : Option (Int32) := nm (x0 - ((ushrI x0 (1 : Int32)) &&& (1431655765 : Int32))) (fun v1 => nm ((v1 &&& (858993459 : Int32)) + ((ushrI v1 (2 : Int32)) &&& (858993459 : Int32))) (fun v2 => nm ((v2 + (ushrI v2 (4 : Int32))) &&& (252645135 : Int32)) (fun v3 => nm (v3 + (ushrI v3 (8 : Int32))) (fun v4 => nm (v4 + (ushrI v4 (16 : Int32))) (fun v5 => some (v5 &&& (63 : Int32)))))))
set_option maxRecDepth 100000 in
set_option maxHeartbeats 4000000 in
theorem c_J6_bitCount_0f7a4 {l : Launch} {D : va_G} {ac : Nat → ClassId} {A : Nat → Prop} {tab : List Ds} {ad : Nat → Nat} {rest : va_W} (N : Nat) (x0 : Int32)  (M : Mem) (r0 : Int32) (hf : f_J6_bitCount_0f7a4 N x0 M = some r0) : CtI l D ac A tab ad rest yJ6_bitCount_0f7a4 cJ6_bitCount_0f7a4 1 .int 1 [.int x0] M r0 M := by
  refine ct_ofI (own := RJ6) (by decide +kernel) rfl (Nat.le_of_ble_eq_true rfl) ?_
  intro p e s m args below meth c C
  unfold f_J6_bitCount_0f7a4 at hf
  refine a_L (L' := [(0, .int x0)]) rfl ?_
  refine a_iload_n (pc := 0) C dJ6_bitCount_0f7a4_0 0 rfl ?_
  refine a_iload_n (pc := 1) C dJ6_bitCount_0f7a4_1 0 rfl ?_
  refine a_iconst (pc := 2) (v := 1) C dJ6_bitCount_0f7a4_2 (by decide) ?_
  refine a_iushr (pc := 3) C dJ6_bitCount_0f7a4_3 ?_
  refine a_ldcw (pc := 4) C dJ6_bitCount_0f7a4_4 co_J6_265 ?_
  refine a_iand (pc := 7) C dJ6_bitCount_0f7a4_7 ?_
  refine a_isub (pc := 8) C dJ6_bitCount_0f7a4_8 ?_
  refine a_nmi hf (fun v1 hf => ?_)
  refine a_istore_n (pc := 9) [(0, .int v1)] C dJ6_bitCount_0f7a4_9 (by decide) rfl ?_
  refine a_iload_n (pc := 10) C dJ6_bitCount_0f7a4_10 0 rfl ?_
  refine a_ldcw (pc := 11) C dJ6_bitCount_0f7a4_11 co_J6_266 ?_
  refine a_iand (pc := 14) C dJ6_bitCount_0f7a4_14 ?_
  refine a_iload_n (pc := 15) C dJ6_bitCount_0f7a4_15 0 rfl ?_
  refine a_iconst (pc := 16) (v := 2) C dJ6_bitCount_0f7a4_16 (by decide) ?_
  refine a_iushr (pc := 17) C dJ6_bitCount_0f7a4_17 ?_
  refine a_ldcw (pc := 18) C dJ6_bitCount_0f7a4_18 co_J6_266 ?_
  refine a_iand (pc := 21) C dJ6_bitCount_0f7a4_21 ?_
  refine a_iadd (pc := 22) C dJ6_bitCount_0f7a4_22 ?_
  refine a_nmi hf (fun v2 hf => ?_)
  refine a_istore_n (pc := 23) [(0, .int v2)] C dJ6_bitCount_0f7a4_23 (by decide) rfl ?_
  refine a_iload_n (pc := 24) C dJ6_bitCount_0f7a4_24 0 rfl ?_
  refine a_iload_n (pc := 25) C dJ6_bitCount_0f7a4_25 0 rfl ?_
  refine a_iconst (pc := 26) (v := 4) C dJ6_bitCount_0f7a4_26 (by decide) ?_
  refine a_iushr (pc := 27) C dJ6_bitCount_0f7a4_27 ?_
  refine a_iadd (pc := 28) C dJ6_bitCount_0f7a4_28 ?_
  refine a_ldcw (pc := 29) C dJ6_bitCount_0f7a4_29 co_J6_267 ?_
  refine a_iand (pc := 32) C dJ6_bitCount_0f7a4_32 ?_
  refine a_nmi hf (fun v3 hf => ?_)
  refine a_istore_n (pc := 33) [(0, .int v3)] C dJ6_bitCount_0f7a4_33 (by decide) rfl ?_
  refine a_iload_n (pc := 34) C dJ6_bitCount_0f7a4_34 0 rfl ?_
  refine a_iload_n (pc := 35) C dJ6_bitCount_0f7a4_35 0 rfl ?_
  refine a_bipush (pc := 36) (v := 8) C dJ6_bitCount_0f7a4_36 (by decide) ?_
  refine a_iushr (pc := 38) C dJ6_bitCount_0f7a4_38 ?_
  refine a_iadd (pc := 39) C dJ6_bitCount_0f7a4_39 ?_
  refine a_nmi hf (fun v4 hf => ?_)
  refine a_istore_n (pc := 40) [(0, .int v4)] C dJ6_bitCount_0f7a4_40 (by decide) rfl ?_
  refine a_iload_n (pc := 41) C dJ6_bitCount_0f7a4_41 0 rfl ?_
  refine a_iload_n (pc := 42) C dJ6_bitCount_0f7a4_42 0 rfl ?_
  refine a_bipush (pc := 43) (v := 16) C dJ6_bitCount_0f7a4_43 (by decide) ?_
  refine a_iushr (pc := 45) C dJ6_bitCount_0f7a4_45 ?_
  refine a_iadd (pc := 46) C dJ6_bitCount_0f7a4_46 ?_
  refine a_nmi hf (fun v5 hf => ?_)
  refine a_istore_n (pc := 47) [(0, .int v5)] C dJ6_bitCount_0f7a4_47 (by decide) rfl ?_
  refine a_iload_n (pc := 48) C dJ6_bitCount_0f7a4_48 0 rfl ?_
  refine a_bipush (pc := 49) (v := 63) C dJ6_bitCount_0f7a4_49 (by decide) ?_
  refine a_iand (pc := 51) C dJ6_bitCount_0f7a4_51 ?_
  exact a_iret (pc := 52) C dJ6_bitCount_0f7a4_52 (Option.some.inj hf) rfl
theorem dJ13_compare_74951_0 : decode cJ13_compare_74951 0 = .ok (.lload_n 0, 1) := by decide +kernel
theorem dJ13_compare_74951_1 : decode cJ13_compare_74951 1 = .ok (.lload_n 2, 1) := by decide +kernel
theorem dJ13_compare_74951_2 : decode cJ13_compare_74951 2 = .ok (.lcmp, 1) := by decide +kernel
theorem dJ13_compare_74951_3 : decode cJ13_compare_74951 3 = .ok (.ifCond .ge 7, 3) := by decide +kernel
theorem dJ13_compare_74951_6 : decode cJ13_compare_74951 6 = .ok (.iconst (-1), 1) := by decide +kernel
theorem dJ13_compare_74951_7 : decode cJ13_compare_74951 7 = .ok (.goto 14, 3) := by decide +kernel
theorem dJ13_compare_74951_10 : decode cJ13_compare_74951 10 = .ok (.lload_n 0, 1) := by decide +kernel
theorem dJ13_compare_74951_11 : decode cJ13_compare_74951 11 = .ok (.lload_n 2, 1) := by decide +kernel
theorem dJ13_compare_74951_12 : decode cJ13_compare_74951 12 = .ok (.lcmp, 1) := by decide +kernel
theorem dJ13_compare_74951_13 : decode cJ13_compare_74951 13 = .ok (.ifCond .ne 7, 3) := by decide +kernel
theorem dJ13_compare_74951_16 : decode cJ13_compare_74951 16 = .ok (.iconst 0, 1) := by decide +kernel
theorem dJ13_compare_74951_17 : decode cJ13_compare_74951 17 = .ok (.goto 4, 3) := by decide +kernel
theorem dJ13_compare_74951_20 : decode cJ13_compare_74951 20 = .ok (.iconst 1, 1) := by decide +kernel
theorem dJ13_compare_74951_21 : decode cJ13_compare_74951 21 = .ok (.ireturn, 1) := by decide +kernel
def f_J13_compare_74951 (N : Nat) (x0 : Int64) (x2 : Int64) (M : Mem) : Option (Int32) := if 0 ≤ (lg_cmp x0 x2) then (if (lg_cmp x0 x2) = 0 then (some (0 : Int32)) else (some (1 : Int32))) else (some (-1 : Int32))
set_option maxRecDepth 100000 in
set_option maxHeartbeats 4000000 in
theorem c_J13_compare_74951 {l : Launch} {D : va_G} {ac : Nat → ClassId} {A : Nat → Prop} {tab : List Ds} {ad : Nat → Nat} {rest : va_W} (N : Nat) (x0 : Int64) (x2 : Int64)  (M : Mem) (r0 : Int32) (hf : f_J13_compare_74951 N x0 x2 M = some r0) : CtI l D ac A tab ad rest yJ13_compare_74951 cJ13_compare_74951 4 .int 1 [.long x0, .long x2] M r0 M := by
  refine ct_ofI (own := RJ13) (by decide +kernel) rfl (Nat.le_of_ble_eq_true rfl) ?_
  intro p e s m args below meth c C
  unfold f_J13_compare_74951 at hf
  refine a_L (L' := [(0, .long x0), (2, .long x2)]) rfl ?_
  refine a_lload_n (pc := 0) C dJ13_compare_74951_0 0 rfl ?_
  refine a_lload_n (pc := 1) C dJ13_compare_74951_1 1 rfl ?_
  refine a_lcmp (pc := 2) C dJ13_compare_74951_2 ?_
  refine a_if_ge (pc := 3) 10 C dJ13_compare_74951_3 (by decide) hf (fun hf => ?_) (fun hf => ?_)
  · refine a_lload_n (pc := 10) C dJ13_compare_74951_10 0 rfl ?_
    refine a_lload_n (pc := 11) C dJ13_compare_74951_11 1 rfl ?_
    refine a_lcmp (pc := 12) C dJ13_compare_74951_12 ?_
    refine a_if_ne (pc := 13) 20 C dJ13_compare_74951_13 (by decide) hf (fun hf => ?_) (fun hf => ?_)
    · refine a_iconst (pc := 20) (v := 1) C dJ13_compare_74951_20 (by decide) ?_
      exact a_iret (pc := 21) C dJ13_compare_74951_21 (Option.some.inj hf) rfl
    · refine a_iconst (pc := 16) (v := 0) C dJ13_compare_74951_16 (by decide) ?_
      refine a_goto (pc := 17) 21 C dJ13_compare_74951_17 (by decide) ?_
      exact a_iret (pc := 21) C dJ13_compare_74951_21 (Option.some.inj hf) rfl
  · refine a_iconst (pc := 6) (v := (-1)) C dJ13_compare_74951_6 (by decide) ?_
    refine a_goto (pc := 7) 21 C dJ13_compare_74951_7 (by decide) ?_
    exact a_iret (pc := 21) C dJ13_compare_74951_21 (Option.some.inj hf) rfl
theorem dJ13_bitCount_95d88_0 : decode cJ13_bitCount_95d88 0 = .ok (.lload_n 0, 1) := by decide +kernel
theorem dJ13_bitCount_95d88_1 : decode cJ13_bitCount_95d88 1 = .ok (.lload_n 0, 1) := by decide +kernel
theorem dJ13_bitCount_95d88_2 : decode cJ13_bitCount_95d88 2 = .ok (.iconst 1, 1) := by decide +kernel
theorem dJ13_bitCount_95d88_3 : decode cJ13_bitCount_95d88 3 = .ok (.lushr, 1) := by decide +kernel
theorem dJ13_bitCount_95d88_4 : decode cJ13_bitCount_95d88 4 = .ok (.ldc2_w 314, 3) := by decide +kernel
theorem dJ13_bitCount_95d88_7 : decode cJ13_bitCount_95d88 7 = .ok (.land, 1) := by decide +kernel
theorem dJ13_bitCount_95d88_8 : decode cJ13_bitCount_95d88 8 = .ok (.lsub, 1) := by decide +kernel
theorem dJ13_bitCount_95d88_9 : decode cJ13_bitCount_95d88 9 = .ok (.lstore_n 0, 1) := by decide +kernel
theorem dJ13_bitCount_95d88_10 : decode cJ13_bitCount_95d88 10 = .ok (.lload_n 0, 1) := by decide +kernel
theorem dJ13_bitCount_95d88_11 : decode cJ13_bitCount_95d88 11 = .ok (.ldc2_w 316, 3) := by decide +kernel
theorem dJ13_bitCount_95d88_14 : decode cJ13_bitCount_95d88 14 = .ok (.land, 1) := by decide +kernel
theorem dJ13_bitCount_95d88_15 : decode cJ13_bitCount_95d88 15 = .ok (.lload_n 0, 1) := by decide +kernel
theorem dJ13_bitCount_95d88_16 : decode cJ13_bitCount_95d88 16 = .ok (.iconst 2, 1) := by decide +kernel
theorem dJ13_bitCount_95d88_17 : decode cJ13_bitCount_95d88 17 = .ok (.lushr, 1) := by decide +kernel
theorem dJ13_bitCount_95d88_18 : decode cJ13_bitCount_95d88 18 = .ok (.ldc2_w 316, 3) := by decide +kernel
theorem dJ13_bitCount_95d88_21 : decode cJ13_bitCount_95d88 21 = .ok (.land, 1) := by decide +kernel
theorem dJ13_bitCount_95d88_22 : decode cJ13_bitCount_95d88 22 = .ok (.ladd, 1) := by decide +kernel
theorem dJ13_bitCount_95d88_23 : decode cJ13_bitCount_95d88 23 = .ok (.lstore_n 0, 1) := by decide +kernel
theorem dJ13_bitCount_95d88_24 : decode cJ13_bitCount_95d88 24 = .ok (.lload_n 0, 1) := by decide +kernel
theorem dJ13_bitCount_95d88_25 : decode cJ13_bitCount_95d88 25 = .ok (.lload_n 0, 1) := by decide +kernel
theorem dJ13_bitCount_95d88_26 : decode cJ13_bitCount_95d88 26 = .ok (.iconst 4, 1) := by decide +kernel
theorem dJ13_bitCount_95d88_27 : decode cJ13_bitCount_95d88 27 = .ok (.lushr, 1) := by decide +kernel
theorem dJ13_bitCount_95d88_28 : decode cJ13_bitCount_95d88 28 = .ok (.ladd, 1) := by decide +kernel
theorem dJ13_bitCount_95d88_29 : decode cJ13_bitCount_95d88 29 = .ok (.ldc2_w 318, 3) := by decide +kernel
theorem dJ13_bitCount_95d88_32 : decode cJ13_bitCount_95d88 32 = .ok (.land, 1) := by decide +kernel
theorem dJ13_bitCount_95d88_33 : decode cJ13_bitCount_95d88 33 = .ok (.lstore_n 0, 1) := by decide +kernel
theorem dJ13_bitCount_95d88_34 : decode cJ13_bitCount_95d88 34 = .ok (.lload_n 0, 1) := by decide +kernel
theorem dJ13_bitCount_95d88_35 : decode cJ13_bitCount_95d88 35 = .ok (.lload_n 0, 1) := by decide +kernel
theorem dJ13_bitCount_95d88_36 : decode cJ13_bitCount_95d88 36 = .ok (.bipush 8, 2) := by decide +kernel
theorem dJ13_bitCount_95d88_38 : decode cJ13_bitCount_95d88 38 = .ok (.lushr, 1) := by decide +kernel
theorem dJ13_bitCount_95d88_39 : decode cJ13_bitCount_95d88 39 = .ok (.ladd, 1) := by decide +kernel
theorem dJ13_bitCount_95d88_40 : decode cJ13_bitCount_95d88 40 = .ok (.lstore_n 0, 1) := by decide +kernel
theorem dJ13_bitCount_95d88_41 : decode cJ13_bitCount_95d88 41 = .ok (.lload_n 0, 1) := by decide +kernel
theorem dJ13_bitCount_95d88_42 : decode cJ13_bitCount_95d88 42 = .ok (.lload_n 0, 1) := by decide +kernel
theorem dJ13_bitCount_95d88_43 : decode cJ13_bitCount_95d88 43 = .ok (.bipush 16, 2) := by decide +kernel
theorem dJ13_bitCount_95d88_45 : decode cJ13_bitCount_95d88 45 = .ok (.lushr, 1) := by decide +kernel
theorem dJ13_bitCount_95d88_46 : decode cJ13_bitCount_95d88 46 = .ok (.ladd, 1) := by decide +kernel
theorem dJ13_bitCount_95d88_47 : decode cJ13_bitCount_95d88 47 = .ok (.lstore_n 0, 1) := by decide +kernel
theorem dJ13_bitCount_95d88_48 : decode cJ13_bitCount_95d88 48 = .ok (.lload_n 0, 1) := by decide +kernel
theorem dJ13_bitCount_95d88_49 : decode cJ13_bitCount_95d88 49 = .ok (.lload_n 0, 1) := by decide +kernel
theorem dJ13_bitCount_95d88_50 : decode cJ13_bitCount_95d88 50 = .ok (.bipush 32, 2) := by decide +kernel
theorem dJ13_bitCount_95d88_52 : decode cJ13_bitCount_95d88 52 = .ok (.lushr, 1) := by decide +kernel
theorem dJ13_bitCount_95d88_53 : decode cJ13_bitCount_95d88 53 = .ok (.ladd, 1) := by decide +kernel
theorem dJ13_bitCount_95d88_54 : decode cJ13_bitCount_95d88 54 = .ok (.lstore_n 0, 1) := by decide +kernel
theorem dJ13_bitCount_95d88_55 : decode cJ13_bitCount_95d88 55 = .ok (.lload_n 0, 1) := by decide +kernel
theorem dJ13_bitCount_95d88_56 : decode cJ13_bitCount_95d88 56 = .ok (.l2i, 1) := by decide +kernel
theorem dJ13_bitCount_95d88_57 : decode cJ13_bitCount_95d88 57 = .ok (.bipush 127, 2) := by decide +kernel
theorem dJ13_bitCount_95d88_59 : decode cJ13_bitCount_95d88 59 = .ok (.iand, 1) := by decide +kernel
theorem dJ13_bitCount_95d88_60 : decode cJ13_bitCount_95d88 60 = .ok (.ireturn, 1) := by decide +kernel
def f_J13_bitCount_95d88 (N : Nat) (x0 : Int64) (M : Mem) : Option (Int32) := nm (x0 - ((ushrJ x0 (1 : Int32)) &&& (6148914691236517205 : Int64))) (fun v1 => nm ((v1 &&& (3689348814741910323 : Int64)) + ((ushrJ v1 (2 : Int32)) &&& (3689348814741910323 : Int64))) (fun v2 => nm ((v2 + (ushrJ v2 (4 : Int32))) &&& (1085102592571150095 : Int64)) (fun v3 => nm (v3 + (ushrJ v3 (8 : Int32))) (fun v4 => nm (v4 + (ushrJ v4 (16 : Int32))) (fun v5 => nm (v5 + (ushrJ v5 (32 : Int32))) (fun v6 => some (v6.toInt32 &&& (127 : Int32))))))))
set_option maxRecDepth 100000 in
set_option maxHeartbeats 4000000 in
theorem c_J13_bitCount_95d88 {l : Launch} {D : va_G} {ac : Nat → ClassId} {A : Nat → Prop} {tab : List Ds} {ad : Nat → Nat} {rest : va_W} (N : Nat) (x0 : Int64)  (M : Mem) (r0 : Int32) (hf : f_J13_bitCount_95d88 N x0 M = some r0) : CtI l D ac A tab ad rest yJ13_bitCount_95d88 cJ13_bitCount_95d88 2 .int 1 [.long x0] M r0 M := by
  refine ct_ofI (own := RJ13) (by decide +kernel) rfl (Nat.le_of_ble_eq_true rfl) ?_
  intro p e s m args below meth c C
  unfold f_J13_bitCount_95d88 at hf
  refine a_L (L' := [(0, .long x0)]) rfl ?_
  refine a_lload_n (pc := 0) C dJ13_bitCount_95d88_0 0 rfl ?_
  refine a_lload_n (pc := 1) C dJ13_bitCount_95d88_1 0 rfl ?_
  refine a_iconst (pc := 2) (v := 1) C dJ13_bitCount_95d88_2 (by decide) ?_
  refine a_lushr (pc := 3) C dJ13_bitCount_95d88_3 ?_
  refine a_ldc2 (pc := 4) C dJ13_bitCount_95d88_4 cj_J13_314 ?_
  refine a_land (pc := 7) C dJ13_bitCount_95d88_7 ?_
  refine a_lsub (pc := 8) C dJ13_bitCount_95d88_8 ?_
  refine a_nml hf (fun v1 hf => ?_)
  refine a_lstore_n (pc := 9) [(0, .long v1)] C dJ13_bitCount_95d88_9 (by decide) rfl ?_
  refine a_lload_n (pc := 10) C dJ13_bitCount_95d88_10 0 rfl ?_
  refine a_ldc2 (pc := 11) C dJ13_bitCount_95d88_11 cj_J13_316 ?_
  refine a_land (pc := 14) C dJ13_bitCount_95d88_14 ?_
  refine a_lload_n (pc := 15) C dJ13_bitCount_95d88_15 0 rfl ?_
  refine a_iconst (pc := 16) (v := 2) C dJ13_bitCount_95d88_16 (by decide) ?_
  refine a_lushr (pc := 17) C dJ13_bitCount_95d88_17 ?_
  refine a_ldc2 (pc := 18) C dJ13_bitCount_95d88_18 cj_J13_316 ?_
  refine a_land (pc := 21) C dJ13_bitCount_95d88_21 ?_
  refine a_ladd (pc := 22) C dJ13_bitCount_95d88_22 ?_
  refine a_nml hf (fun v2 hf => ?_)
  refine a_lstore_n (pc := 23) [(0, .long v2)] C dJ13_bitCount_95d88_23 (by decide) rfl ?_
  refine a_lload_n (pc := 24) C dJ13_bitCount_95d88_24 0 rfl ?_
  refine a_lload_n (pc := 25) C dJ13_bitCount_95d88_25 0 rfl ?_
  refine a_iconst (pc := 26) (v := 4) C dJ13_bitCount_95d88_26 (by decide) ?_
  refine a_lushr (pc := 27) C dJ13_bitCount_95d88_27 ?_
  refine a_ladd (pc := 28) C dJ13_bitCount_95d88_28 ?_
  refine a_ldc2 (pc := 29) C dJ13_bitCount_95d88_29 cj_J13_318 ?_
  refine a_land (pc := 32) C dJ13_bitCount_95d88_32 ?_
  refine a_nml hf (fun v3 hf => ?_)
  refine a_lstore_n (pc := 33) [(0, .long v3)] C dJ13_bitCount_95d88_33 (by decide) rfl ?_
  refine a_lload_n (pc := 34) C dJ13_bitCount_95d88_34 0 rfl ?_
  refine a_lload_n (pc := 35) C dJ13_bitCount_95d88_35 0 rfl ?_
  refine a_bipush (pc := 36) (v := 8) C dJ13_bitCount_95d88_36 (by decide) ?_
  refine a_lushr (pc := 38) C dJ13_bitCount_95d88_38 ?_
  refine a_ladd (pc := 39) C dJ13_bitCount_95d88_39 ?_
  refine a_nml hf (fun v4 hf => ?_)
  refine a_lstore_n (pc := 40) [(0, .long v4)] C dJ13_bitCount_95d88_40 (by decide) rfl ?_
  refine a_lload_n (pc := 41) C dJ13_bitCount_95d88_41 0 rfl ?_
  refine a_lload_n (pc := 42) C dJ13_bitCount_95d88_42 0 rfl ?_
  refine a_bipush (pc := 43) (v := 16) C dJ13_bitCount_95d88_43 (by decide) ?_
  refine a_lushr (pc := 45) C dJ13_bitCount_95d88_45 ?_
  refine a_ladd (pc := 46) C dJ13_bitCount_95d88_46 ?_
  refine a_nml hf (fun v5 hf => ?_)
  refine a_lstore_n (pc := 47) [(0, .long v5)] C dJ13_bitCount_95d88_47 (by decide) rfl ?_
  refine a_lload_n (pc := 48) C dJ13_bitCount_95d88_48 0 rfl ?_
  refine a_lload_n (pc := 49) C dJ13_bitCount_95d88_49 0 rfl ?_
  refine a_bipush (pc := 50) (v := 32) C dJ13_bitCount_95d88_50 (by decide) ?_
  refine a_lushr (pc := 52) C dJ13_bitCount_95d88_52 ?_
  refine a_ladd (pc := 53) C dJ13_bitCount_95d88_53 ?_
  refine a_nml hf (fun v6 hf => ?_)
  refine a_lstore_n (pc := 54) [(0, .long v6)] C dJ13_bitCount_95d88_54 (by decide) rfl ?_
  refine a_lload_n (pc := 55) C dJ13_bitCount_95d88_55 0 rfl ?_
  refine a_l2i (pc := 56) C dJ13_bitCount_95d88_56 ?_
  refine a_bipush (pc := 57) (v := 127) C dJ13_bitCount_95d88_57 (by decide) ?_
  refine a_iand (pc := 59) C dJ13_bitCount_95d88_59 ?_
  exact a_iret (pc := 60) C dJ13_bitCount_95d88_60 (Option.some.inj hf) rfl
theorem dJ9_floorDiv_f86c9_0 : decode cJ9_floorDiv_f86c9 0 = .ok (.lload_n 0, 1) := by decide +kernel
theorem dJ9_floorDiv_f86c9_1 : decode cJ9_floorDiv_f86c9 1 = .ok (.lload_n 2, 1) := by decide +kernel
theorem dJ9_floorDiv_f86c9_2 : decode cJ9_floorDiv_f86c9 2 = .ok (.ldiv, 1) := by decide +kernel
theorem dJ9_floorDiv_f86c9_3 : decode cJ9_floorDiv_f86c9 3 = .ok (.lstore 4, 2) := by decide +kernel
theorem dJ9_floorDiv_f86c9_5 : decode cJ9_floorDiv_f86c9 5 = .ok (.lload_n 0, 1) := by decide +kernel
theorem dJ9_floorDiv_f86c9_6 : decode cJ9_floorDiv_f86c9 6 = .ok (.lload_n 2, 1) := by decide +kernel
theorem dJ9_floorDiv_f86c9_7 : decode cJ9_floorDiv_f86c9 7 = .ok (.lxor, 1) := by decide +kernel
theorem dJ9_floorDiv_f86c9_8 : decode cJ9_floorDiv_f86c9 8 = .ok (.lconst 0, 1) := by decide +kernel
theorem dJ9_floorDiv_f86c9_9 : decode cJ9_floorDiv_f86c9 9 = .ok (.lcmp, 1) := by decide +kernel
theorem dJ9_floorDiv_f86c9_10 : decode cJ9_floorDiv_f86c9 10 = .ok (.ifCond .ge 17, 3) := by decide +kernel
theorem dJ9_floorDiv_f86c9_13 : decode cJ9_floorDiv_f86c9 13 = .ok (.lload 4, 2) := by decide +kernel
theorem dJ9_floorDiv_f86c9_15 : decode cJ9_floorDiv_f86c9 15 = .ok (.lload_n 2, 1) := by decide +kernel
theorem dJ9_floorDiv_f86c9_16 : decode cJ9_floorDiv_f86c9 16 = .ok (.lmul, 1) := by decide +kernel
theorem dJ9_floorDiv_f86c9_17 : decode cJ9_floorDiv_f86c9 17 = .ok (.lload_n 0, 1) := by decide +kernel
theorem dJ9_floorDiv_f86c9_18 : decode cJ9_floorDiv_f86c9 18 = .ok (.lcmp, 1) := by decide +kernel
theorem dJ9_floorDiv_f86c9_19 : decode cJ9_floorDiv_f86c9 19 = .ok (.ifCond .eq 8, 3) := by decide +kernel
theorem dJ9_floorDiv_f86c9_22 : decode cJ9_floorDiv_f86c9 22 = .ok (.lload 4, 2) := by decide +kernel
theorem dJ9_floorDiv_f86c9_24 : decode cJ9_floorDiv_f86c9 24 = .ok (.lconst 1, 1) := by decide +kernel
theorem dJ9_floorDiv_f86c9_25 : decode cJ9_floorDiv_f86c9 25 = .ok (.lsub, 1) := by decide +kernel
theorem dJ9_floorDiv_f86c9_26 : decode cJ9_floorDiv_f86c9 26 = .ok (.lreturn, 1) := by decide +kernel
theorem dJ9_floorDiv_f86c9_27 : decode cJ9_floorDiv_f86c9 27 = .ok (.lload 4, 2) := by decide +kernel
theorem dJ9_floorDiv_f86c9_29 : decode cJ9_floorDiv_f86c9 29 = .ok (.lreturn, 1) := by decide +kernel
def f_J9_floorDiv_f86c9 (N : Nat) (x0 : Int64) (x2 : Int64) (M : Mem) : Option (Int64) := ck (¬ x2 = 0) (nm (x0 / x2) (fun v1 => if 0 ≤ (lg_cmp (x0 ^^^ x2) (0 : Int64)) then (some v1) else (if (lg_cmp (v1 * x2) x0) = 0 then (some v1) else (some (v1 - (1 : Int64))))))
set_option maxRecDepth 100000 in
set_option maxHeartbeats 4000000 in
theorem c_J9_floorDiv_f86c9 {l : Launch} {D : va_G} {ac : Nat → ClassId} {A : Nat → Prop} {tab : List Ds} {ad : Nat → Nat} {rest : va_W} (N : Nat) (x0 : Int64) (x2 : Int64)  (M : Mem) (r0 : Int64) (hf : f_J9_floorDiv_f86c9 N x0 x2 M = some r0) : CtJ l D ac A tab ad rest yJ9_floorDiv_f86c9 cJ9_floorDiv_f86c9 6  1 [.long x0, .long x2] M r0 M := by
  refine ct_ofJ (own := RJ9) (by decide +kernel) rfl (Nat.le_of_ble_eq_true rfl) ?_
  intro p e s m args below meth c C
  unfold f_J9_floorDiv_f86c9 at hf
  refine a_L (L' := [(0, .long x0), (2, .long x2)]) rfl ?_
  refine a_lload_n (pc := 0) C dJ9_floorDiv_f86c9_0 0 rfl ?_
  refine a_lload_n (pc := 1) C dJ9_floorDiv_f86c9_1 1 rfl ?_
  refine a_ldiv (pc := 2) C dJ9_floorDiv_f86c9_2 hf (fun hf => ?_)
  refine a_nml hf (fun v1 hf => ?_)
  refine a_lstore (pc := 3) [(4, .long v1), (0, .long x0), (2, .long x2)] C dJ9_floorDiv_f86c9_3 (by decide) rfl ?_
  refine a_lload_n (pc := 5) C dJ9_floorDiv_f86c9_5 1 rfl ?_
  refine a_lload_n (pc := 6) C dJ9_floorDiv_f86c9_6 2 rfl ?_
  refine a_lxor (pc := 7) C dJ9_floorDiv_f86c9_7 ?_
  refine a_lconst (pc := 8) (v := 0) C dJ9_floorDiv_f86c9_8 (by decide) ?_
  refine a_lcmp (pc := 9) C dJ9_floorDiv_f86c9_9 ?_
  refine a_if_ge (pc := 10) 27 C dJ9_floorDiv_f86c9_10 (by decide) hf (fun hf => ?_) (fun hf => ?_)
  · refine a_lload (pc := 27) C dJ9_floorDiv_f86c9_27 0 rfl ?_
    exact a_lret (pc := 29) C dJ9_floorDiv_f86c9_29 (Option.some.inj hf) rfl
  · refine a_lload (pc := 13) C dJ9_floorDiv_f86c9_13 0 rfl ?_
    refine a_lload_n (pc := 15) C dJ9_floorDiv_f86c9_15 2 rfl ?_
    refine a_lmul (pc := 16) C dJ9_floorDiv_f86c9_16 ?_
    refine a_lload_n (pc := 17) C dJ9_floorDiv_f86c9_17 1 rfl ?_
    refine a_lcmp (pc := 18) C dJ9_floorDiv_f86c9_18 ?_
    refine a_if_eq (pc := 19) 27 C dJ9_floorDiv_f86c9_19 (by decide) hf (fun hf => ?_) (fun hf => ?_)
    · refine a_lload (pc := 27) C dJ9_floorDiv_f86c9_27 0 rfl ?_
      exact a_lret (pc := 29) C dJ9_floorDiv_f86c9_29 (Option.some.inj hf) rfl
    · refine a_lload (pc := 22) C dJ9_floorDiv_f86c9_22 0 rfl ?_
      refine a_lconst (pc := 24) (v := 1) C dJ9_floorDiv_f86c9_24 (by decide) ?_
      refine a_lsub (pc := 25) C dJ9_floorDiv_f86c9_25 ?_
      exact a_lret (pc := 26) C dJ9_floorDiv_f86c9_26 (Option.some.inj hf) rfl
theorem dJ9_floorMod_f86c9_0 : decode cJ9_floorMod_f86c9 0 = .ok (.lload_n 0, 1) := by decide +kernel
theorem dJ9_floorMod_f86c9_1 : decode cJ9_floorMod_f86c9 1 = .ok (.lload_n 2, 1) := by decide +kernel
theorem dJ9_floorMod_f86c9_2 : decode cJ9_floorMod_f86c9 2 = .ok (.lrem, 1) := by decide +kernel
theorem dJ9_floorMod_f86c9_3 : decode cJ9_floorMod_f86c9 3 = .ok (.lstore 4, 2) := by decide +kernel
theorem dJ9_floorMod_f86c9_5 : decode cJ9_floorMod_f86c9 5 = .ok (.lload_n 0, 1) := by decide +kernel
theorem dJ9_floorMod_f86c9_6 : decode cJ9_floorMod_f86c9 6 = .ok (.lload_n 2, 1) := by decide +kernel
theorem dJ9_floorMod_f86c9_7 : decode cJ9_floorMod_f86c9 7 = .ok (.lxor, 1) := by decide +kernel
theorem dJ9_floorMod_f86c9_8 : decode cJ9_floorMod_f86c9 8 = .ok (.lconst 0, 1) := by decide +kernel
theorem dJ9_floorMod_f86c9_9 : decode cJ9_floorMod_f86c9 9 = .ok (.lcmp, 1) := by decide +kernel
theorem dJ9_floorMod_f86c9_10 : decode cJ9_floorMod_f86c9 10 = .ok (.ifCond .ge 15, 3) := by decide +kernel
theorem dJ9_floorMod_f86c9_13 : decode cJ9_floorMod_f86c9 13 = .ok (.lload 4, 2) := by decide +kernel
theorem dJ9_floorMod_f86c9_15 : decode cJ9_floorMod_f86c9 15 = .ok (.lconst 0, 1) := by decide +kernel
theorem dJ9_floorMod_f86c9_16 : decode cJ9_floorMod_f86c9 16 = .ok (.lcmp, 1) := by decide +kernel
theorem dJ9_floorMod_f86c9_17 : decode cJ9_floorMod_f86c9 17 = .ok (.ifCond .eq 8, 3) := by decide +kernel
theorem dJ9_floorMod_f86c9_20 : decode cJ9_floorMod_f86c9 20 = .ok (.lload 4, 2) := by decide +kernel
theorem dJ9_floorMod_f86c9_22 : decode cJ9_floorMod_f86c9 22 = .ok (.lload_n 2, 1) := by decide +kernel
theorem dJ9_floorMod_f86c9_23 : decode cJ9_floorMod_f86c9 23 = .ok (.ladd, 1) := by decide +kernel
theorem dJ9_floorMod_f86c9_24 : decode cJ9_floorMod_f86c9 24 = .ok (.lreturn, 1) := by decide +kernel
theorem dJ9_floorMod_f86c9_25 : decode cJ9_floorMod_f86c9 25 = .ok (.lload 4, 2) := by decide +kernel
theorem dJ9_floorMod_f86c9_27 : decode cJ9_floorMod_f86c9 27 = .ok (.lreturn, 1) := by decide +kernel
def f_J9_floorMod_f86c9 (N : Nat) (x0 : Int64) (x2 : Int64) (M : Mem) : Option (Int64) := ck (¬ x2 = 0) (nm (x0 - x0 / x2 * x2) (fun v1 => if 0 ≤ (lg_cmp (x0 ^^^ x2) (0 : Int64)) then (some v1) else (if (lg_cmp v1 (0 : Int64)) = 0 then (some v1) else (some (v1 + x2)))))
set_option maxRecDepth 100000 in
set_option maxHeartbeats 4000000 in
theorem c_J9_floorMod_f86c9 {l : Launch} {D : va_G} {ac : Nat → ClassId} {A : Nat → Prop} {tab : List Ds} {ad : Nat → Nat} {rest : va_W} (N : Nat) (x0 : Int64) (x2 : Int64)  (M : Mem) (r0 : Int64) (hf : f_J9_floorMod_f86c9 N x0 x2 M = some r0) : CtJ l D ac A tab ad rest yJ9_floorMod_f86c9 cJ9_floorMod_f86c9 6  1 [.long x0, .long x2] M r0 M := by
  refine ct_ofJ (own := RJ9) (by decide +kernel) rfl (Nat.le_of_ble_eq_true rfl) ?_
  intro p e s m args below meth c C
  unfold f_J9_floorMod_f86c9 at hf
  refine a_L (L' := [(0, .long x0), (2, .long x2)]) rfl ?_
  refine a_lload_n (pc := 0) C dJ9_floorMod_f86c9_0 0 rfl ?_
  refine a_lload_n (pc := 1) C dJ9_floorMod_f86c9_1 1 rfl ?_
  refine a_lrem (pc := 2) C dJ9_floorMod_f86c9_2 hf (fun hf => ?_)
  refine a_nml hf (fun v1 hf => ?_)
  refine a_lstore (pc := 3) [(4, .long v1), (0, .long x0), (2, .long x2)] C dJ9_floorMod_f86c9_3 (by decide) rfl ?_
  refine a_lload_n (pc := 5) C dJ9_floorMod_f86c9_5 1 rfl ?_
  refine a_lload_n (pc := 6) C dJ9_floorMod_f86c9_6 2 rfl ?_
  refine a_lxor (pc := 7) C dJ9_floorMod_f86c9_7 ?_
  refine a_lconst (pc := 8) (v := 0) C dJ9_floorMod_f86c9_8 (by decide) ?_
  refine a_lcmp (pc := 9) C dJ9_floorMod_f86c9_9 ?_
  refine a_if_ge (pc := 10) 25 C dJ9_floorMod_f86c9_10 (by decide) hf (fun hf => ?_) (fun hf => ?_)
  · refine a_lload (pc := 25) C dJ9_floorMod_f86c9_25 0 rfl ?_
    exact a_lret (pc := 27) C dJ9_floorMod_f86c9_27 (Option.some.inj hf) rfl
  · refine a_lload (pc := 13) C dJ9_floorMod_f86c9_13 0 rfl ?_
    refine a_lconst (pc := 15) (v := 0) C dJ9_floorMod_f86c9_15 (by decide) ?_
    refine a_lcmp (pc := 16) C dJ9_floorMod_f86c9_16 ?_
    refine a_if_eq (pc := 17) 25 C dJ9_floorMod_f86c9_17 (by decide) hf (fun hf => ?_) (fun hf => ?_)
    · refine a_lload (pc := 25) C dJ9_floorMod_f86c9_25 0 rfl ?_
      exact a_lret (pc := 27) C dJ9_floorMod_f86c9_27 (Option.some.inj hf) rfl
    · refine a_lload (pc := 20) C dJ9_floorMod_f86c9_20 0 rfl ?_
      refine a_lload_n (pc := 22) C dJ9_floorMod_f86c9_22 2 rfl ?_
      refine a_ladd (pc := 23) C dJ9_floorMod_f86c9_23 ?_
      exact a_lret (pc := 24) C dJ9_floorMod_f86c9_24 (Option.some.inj hf) rfl
theorem dJ9_abs_067f4_0 : decode cJ9_abs_067f4 0 = .ok (.lload_n 0, 1) := by decide +kernel
theorem dJ9_abs_067f4_1 : decode cJ9_abs_067f4 1 = .ok (.lconst 0, 1) := by decide +kernel
theorem dJ9_abs_067f4_2 : decode cJ9_abs_067f4 2 = .ok (.lcmp, 1) := by decide +kernel
theorem dJ9_abs_067f4_3 : decode cJ9_abs_067f4 3 = .ok (.ifCond .ge 8, 3) := by decide +kernel
theorem dJ9_abs_067f4_6 : decode cJ9_abs_067f4 6 = .ok (.lload_n 0, 1) := by decide +kernel
theorem dJ9_abs_067f4_7 : decode cJ9_abs_067f4 7 = .ok (.lneg, 1) := by decide +kernel
theorem dJ9_abs_067f4_8 : decode cJ9_abs_067f4 8 = .ok (.goto 4, 3) := by decide +kernel
theorem dJ9_abs_067f4_11 : decode cJ9_abs_067f4 11 = .ok (.lload_n 0, 1) := by decide +kernel
theorem dJ9_abs_067f4_12 : decode cJ9_abs_067f4 12 = .ok (.lreturn, 1) := by decide +kernel
def f_J9_abs_067f4 (N : Nat) (x0 : Int64) (M : Mem) : Option (Int64) := if 0 ≤ (lg_cmp x0 (0 : Int64)) then (some x0) else (some (-x0))
set_option maxRecDepth 100000 in
set_option maxHeartbeats 4000000 in
theorem c_J9_abs_067f4 {l : Launch} {D : va_G} {ac : Nat → ClassId} {A : Nat → Prop} {tab : List Ds} {ad : Nat → Nat} {rest : va_W} (N : Nat) (x0 : Int64)  (M : Mem) (r0 : Int64) (hf : f_J9_abs_067f4 N x0 M = some r0) : CtJ l D ac A tab ad rest yJ9_abs_067f4 cJ9_abs_067f4 2  1 [.long x0] M r0 M := by
  refine ct_ofJ (own := RJ9) (by decide +kernel) rfl (Nat.le_of_ble_eq_true rfl) ?_
  intro p e s m args below meth c C
  unfold f_J9_abs_067f4 at hf
  refine a_L (L' := [(0, .long x0)]) rfl ?_
  refine a_lload_n (pc := 0) C dJ9_abs_067f4_0 0 rfl ?_
  refine a_lconst (pc := 1) (v := 0) C dJ9_abs_067f4_1 (by decide) ?_
  refine a_lcmp (pc := 2) C dJ9_abs_067f4_2 ?_
  refine a_if_ge (pc := 3) 11 C dJ9_abs_067f4_3 (by decide) hf (fun hf => ?_) (fun hf => ?_)
  · refine a_lload_n (pc := 11) C dJ9_abs_067f4_11 0 rfl ?_
    exact a_lret (pc := 12) C dJ9_abs_067f4_12 (Option.some.inj hf) rfl
  · refine a_lload_n (pc := 6) C dJ9_abs_067f4_6 0 rfl ?_
    refine a_lneg (pc := 7) C dJ9_abs_067f4_7 ?_
    refine a_goto (pc := 8) 12 C dJ9_abs_067f4_8 (by decide) ?_
    exact a_lret (pc := 12) C dJ9_abs_067f4_12 (Option.some.inj hf) rfl
theorem dJ9_max_7cf53_0 : decode cJ9_max_7cf53 0 = .ok (.iload_n 0, 1) := by decide +kernel
theorem dJ9_max_7cf53_1 : decode cJ9_max_7cf53 1 = .ok (.iload_n 1, 1) := by decide +kernel
theorem dJ9_max_7cf53_2 : decode cJ9_max_7cf53 2 = .ok (.if_icmp .lt 7, 3) := by decide +kernel
theorem dJ9_max_7cf53_5 : decode cJ9_max_7cf53 5 = .ok (.iload_n 0, 1) := by decide +kernel
theorem dJ9_max_7cf53_6 : decode cJ9_max_7cf53 6 = .ok (.goto 4, 3) := by decide +kernel
theorem dJ9_max_7cf53_9 : decode cJ9_max_7cf53 9 = .ok (.iload_n 1, 1) := by decide +kernel
theorem dJ9_max_7cf53_10 : decode cJ9_max_7cf53 10 = .ok (.ireturn, 1) := by decide +kernel
def f_J9_max_7cf53 (N : Nat) (x0 : Int32) (x1 : Int32) (M : Mem) : Option (Int32) := if x0 < x1 then (some x1) else (some x0)
set_option maxRecDepth 100000 in
set_option maxHeartbeats 4000000 in
theorem c_J9_max_7cf53 {l : Launch} {D : va_G} {ac : Nat → ClassId} {A : Nat → Prop} {tab : List Ds} {ad : Nat → Nat} {rest : va_W} (N : Nat) (x0 : Int32) (x1 : Int32)  (M : Mem) (r0 : Int32) (hf : f_J9_max_7cf53 N x0 x1 M = some r0) : CtI l D ac A tab ad rest yJ9_max_7cf53 cJ9_max_7cf53 2 .int 1 [.int x0, .int x1] M r0 M := by
  refine ct_ofI (own := RJ9) (by decide +kernel) rfl (Nat.le_of_ble_eq_true rfl) ?_
  intro p e s m args below meth c C
  unfold f_J9_max_7cf53 at hf
  refine a_L (L' := [(0, .int x0), (1, .int x1)]) rfl ?_
  refine a_iload_n (pc := 0) C dJ9_max_7cf53_0 0 rfl ?_
  refine a_iload_n (pc := 1) C dJ9_max_7cf53_1 1 rfl ?_
  refine a_icmp_lt (pc := 2) 9 C dJ9_max_7cf53_2 (by decide) hf (fun hf => ?_) (fun hf => ?_)
  · refine a_iload_n (pc := 9) C dJ9_max_7cf53_9 1 rfl ?_
    exact a_iret (pc := 10) C dJ9_max_7cf53_10 (Option.some.inj hf) rfl
  · refine a_iload_n (pc := 5) C dJ9_max_7cf53_5 0 rfl ?_
    refine a_goto (pc := 6) 10 C dJ9_max_7cf53_6 (by decide) ?_
    exact a_iret (pc := 10) C dJ9_max_7cf53_10 (Option.some.inj hf) rfl
theorem dJ9_min_7cf53_0 : decode cJ9_min_7cf53 0 = .ok (.iload_n 0, 1) := by decide +kernel
theorem dJ9_min_7cf53_1 : decode cJ9_min_7cf53 1 = .ok (.iload_n 1, 1) := by decide +kernel
theorem dJ9_min_7cf53_2 : decode cJ9_min_7cf53 2 = .ok (.if_icmp .gt 7, 3) := by decide +kernel
theorem dJ9_min_7cf53_5 : decode cJ9_min_7cf53 5 = .ok (.iload_n 0, 1) := by decide +kernel
theorem dJ9_min_7cf53_6 : decode cJ9_min_7cf53 6 = .ok (.goto 4, 3) := by decide +kernel
theorem dJ9_min_7cf53_9 : decode cJ9_min_7cf53 9 = .ok (.iload_n 1, 1) := by decide +kernel
theorem dJ9_min_7cf53_10 : decode cJ9_min_7cf53 10 = .ok (.ireturn, 1) := by decide +kernel
def f_J9_min_7cf53 (N : Nat) (x0 : Int32) (x1 : Int32) (M : Mem) : Option (Int32) := if x1 < x0 then (some x1) else (some x0)
set_option maxRecDepth 100000 in
set_option maxHeartbeats 4000000 in
theorem c_J9_min_7cf53 {l : Launch} {D : va_G} {ac : Nat → ClassId} {A : Nat → Prop} {tab : List Ds} {ad : Nat → Nat} {rest : va_W} (N : Nat) (x0 : Int32) (x1 : Int32)  (M : Mem) (r0 : Int32) (hf : f_J9_min_7cf53 N x0 x1 M = some r0) : CtI l D ac A tab ad rest yJ9_min_7cf53 cJ9_min_7cf53 2 .int 1 [.int x0, .int x1] M r0 M := by
  refine ct_ofI (own := RJ9) (by decide +kernel) rfl (Nat.le_of_ble_eq_true rfl) ?_
  intro p e s m args below meth c C
  unfold f_J9_min_7cf53 at hf
  refine a_L (L' := [(0, .int x0), (1, .int x1)]) rfl ?_
  refine a_iload_n (pc := 0) C dJ9_min_7cf53_0 0 rfl ?_
  refine a_iload_n (pc := 1) C dJ9_min_7cf53_1 1 rfl ?_
  refine a_icmp_gt (pc := 2) 9 C dJ9_min_7cf53_2 (by decide) hf (fun hf => ?_) (fun hf => ?_)
  · refine a_iload_n (pc := 9) C dJ9_min_7cf53_9 1 rfl ?_
    exact a_iret (pc := 10) C dJ9_min_7cf53_10 (Option.some.inj hf) rfl
  · refine a_iload_n (pc := 5) C dJ9_min_7cf53_5 0 rfl ?_
    refine a_goto (pc := 6) 10 C dJ9_min_7cf53_6 (by decide) ?_
    exact a_iret (pc := 10) C dJ9_min_7cf53_10 (Option.some.inj hf) rfl
theorem dJ9_min_f86c9_0 : decode cJ9_min_f86c9 0 = .ok (.lload_n 0, 1) := by decide +kernel
theorem dJ9_min_f86c9_1 : decode cJ9_min_f86c9 1 = .ok (.lload_n 2, 1) := by decide +kernel
theorem dJ9_min_f86c9_2 : decode cJ9_min_f86c9 2 = .ok (.lcmp, 1) := by decide +kernel
theorem dJ9_min_f86c9_3 : decode cJ9_min_f86c9 3 = .ok (.ifCond .gt 7, 3) := by decide +kernel
theorem dJ9_min_f86c9_6 : decode cJ9_min_f86c9 6 = .ok (.lload_n 0, 1) := by decide +kernel
theorem dJ9_min_f86c9_7 : decode cJ9_min_f86c9 7 = .ok (.goto 4, 3) := by decide +kernel
theorem dJ9_min_f86c9_10 : decode cJ9_min_f86c9 10 = .ok (.lload_n 2, 1) := by decide +kernel
theorem dJ9_min_f86c9_11 : decode cJ9_min_f86c9 11 = .ok (.lreturn, 1) := by decide +kernel
def f_J9_min_f86c9 (N : Nat) (x0 : Int64) (x2 : Int64) (M : Mem) : Option (Int64) := if 0 < (lg_cmp x0 x2) then (some x2) else (some x0)
set_option maxRecDepth 100000 in
set_option maxHeartbeats 4000000 in
theorem c_J9_min_f86c9 {l : Launch} {D : va_G} {ac : Nat → ClassId} {A : Nat → Prop} {tab : List Ds} {ad : Nat → Nat} {rest : va_W} (N : Nat) (x0 : Int64) (x2 : Int64)  (M : Mem) (r0 : Int64) (hf : f_J9_min_f86c9 N x0 x2 M = some r0) : CtJ l D ac A tab ad rest yJ9_min_f86c9 cJ9_min_f86c9 4  1 [.long x0, .long x2] M r0 M := by
  refine ct_ofJ (own := RJ9) (by decide +kernel) rfl (Nat.le_of_ble_eq_true rfl) ?_
  intro p e s m args below meth c C
  unfold f_J9_min_f86c9 at hf
  refine a_L (L' := [(0, .long x0), (2, .long x2)]) rfl ?_
  refine a_lload_n (pc := 0) C dJ9_min_f86c9_0 0 rfl ?_
  refine a_lload_n (pc := 1) C dJ9_min_f86c9_1 1 rfl ?_
  refine a_lcmp (pc := 2) C dJ9_min_f86c9_2 ?_
  refine a_if_gt (pc := 3) 10 C dJ9_min_f86c9_3 (by decide) hf (fun hf => ?_) (fun hf => ?_)
  · refine a_lload_n (pc := 10) C dJ9_min_f86c9_10 1 rfl ?_
    exact a_lret (pc := 11) C dJ9_min_f86c9_11 (Option.some.inj hf) rfl
  · refine a_lload_n (pc := 6) C dJ9_min_f86c9_6 0 rfl ?_
    refine a_goto (pc := 7) 11 C dJ9_min_f86c9_7 (by decide) ?_
    exact a_lret (pc := 11) C dJ9_min_f86c9_11 (Option.some.inj hf) rfl
theorem dJ7_fill_d0a16_0 : decode cJ7_fill_d0a16 0 = .ok (.iconst 0, 1) := by decide +kernel
theorem dJ7_fill_d0a16_1 : decode cJ7_fill_d0a16 1 = .ok (.istore_n 3, 1) := by decide +kernel
theorem dJ7_fill_d0a16_2 : decode cJ7_fill_d0a16 2 = .ok (.aload_n 0, 1) := by decide +kernel
theorem dJ7_fill_d0a16_3 : decode cJ7_fill_d0a16 3 = .ok (.arraylength, 1) := by decide +kernel
theorem dJ7_fill_d0a16_4 : decode cJ7_fill_d0a16 4 = .ok (.istore 4, 2) := by decide +kernel
theorem dJ7_fill_d0a16_6 : decode cJ7_fill_d0a16 6 = .ok (.iload_n 3, 1) := by decide +kernel
theorem dJ7_fill_d0a16_7 : decode cJ7_fill_d0a16 7 = .ok (.iload 4, 2) := by decide +kernel
theorem dJ7_fill_d0a16_9 : decode cJ7_fill_d0a16 9 = .ok (.if_icmp .ge 13, 3) := by decide +kernel
theorem dJ7_fill_d0a16_12 : decode cJ7_fill_d0a16 12 = .ok (.aload_n 0, 1) := by decide +kernel
theorem dJ7_fill_d0a16_13 : decode cJ7_fill_d0a16 13 = .ok (.iload_n 3, 1) := by decide +kernel
theorem dJ7_fill_d0a16_14 : decode cJ7_fill_d0a16 14 = .ok (.lload_n 1, 1) := by decide +kernel
theorem dJ7_fill_d0a16_15 : decode cJ7_fill_d0a16 15 = .ok (.lastore, 1) := by decide +kernel
theorem dJ7_fill_d0a16_16 : decode cJ7_fill_d0a16 16 = .ok (.iinc 3 1, 3) := by decide +kernel
theorem dJ7_fill_d0a16_19 : decode cJ7_fill_d0a16 19 = .ok (.goto (-13), 3) := by decide +kernel
theorem dJ7_fill_d0a16_22 : decode cJ7_fill_d0a16 22 = .ok (.return_, 1) := by decide +kernel
def f_J7_fill_d0a16 (N : Nat) (c0 : Nat) (n0 : Nat) (x1 : Int64) (M : Mem) : Option (Mem) := nm (Int32.ofNat n0) (fun v1 => lp (fun (k6 : (Int32 × Mem) → Option (Mem)) (a6 : Int32 × Mem) => if v1 ≤ a6.1 then (some a6.2) else (ck (inb a6.1 n0) (nm (setJ a6.2 c0 a6.1.toNatClampNeg x1) (fun M2 => nm (a6.1 + (1 : Int32)) (fun v3 => k6 (v3, M2)))))) N ((0 : Int32), M))
set_option maxRecDepth 100000 in
set_option maxHeartbeats 4000000 in
theorem c_J7_fill_d0a16 {l : Launch} {D : va_G} {ac : Nat → ClassId} {A : Nat → Prop} {tab : List Ds} {ad : Nat → Nat} {rest : va_W} (N : Nat) (c0 : Nat) (n0 : Nat) (x1 : Int64) (hc0 : tab[c0]? = some (.inr (1, n0, some none))) (M : Mem)  (M0 : Mem) (hf : f_J7_fill_d0a16 N c0 n0 x1 M = some M0) : CtV l D ac A tab ad rest yJ7_fill_d0a16 cJ7_fill_d0a16 5  1 [.ref (ad c0), .long x1] M  M0 := by
  refine ct_ofV (own := RJ7) (by decide +kernel) rfl (Nat.le_of_ble_eq_true rfl) ?_
  intro p e s m args below meth c C
  unfold f_J7_fill_d0a16 at hf
  refine a_L (L' := [(0, .ref (ad c0)), (1, .long x1)]) rfl ?_
  refine a_iconst (pc := 0) (v := 0) C dJ7_fill_d0a16_0 (by decide) ?_
  refine a_istore_n (pc := 1) [(3, .int (0 : Int32)), (0, .ref (ad c0)), (1, .long x1)] C dJ7_fill_d0a16_1 (by decide) rfl ?_
  refine a_aload_n (pc := 2) C dJ7_fill_d0a16_2 1 rfl ?_
  refine a_alen (pc := 3) C dJ7_fill_d0a16_3 hc0 rfl rfl ?_
  refine a_nmi hf (fun v1 hf => ?_)
  refine a_istore (pc := 4) [(4, .int v1), (3, .int (0 : Int32)), (0, .ref (ad c0)), (1, .long x1)] C dJ7_fill_d0a16_4 (by decide) rfl ?_
  refine a_sub [2, 3, 1, 0] rfl ?_
  refine a_lp 6 (fun a6 : Int32 × Mem => [(0, .ref (ad c0)), (1, .long x1), (3, .int a6.1), (4, .int v1)]) (fun a6 : Int32 × Mem => []) (fun a6 : Int32 × Mem => a6.2) (fun k6 a6 hk6 hf => ?_) N ((0 : Int32), M) hf
  refine a_iload_n (pc := 6) C dJ7_fill_d0a16_6 2 rfl ?_
  refine a_iload (pc := 7) C dJ7_fill_d0a16_7 3 rfl ?_
  refine a_icmp_ge (pc := 9) 22 C dJ7_fill_d0a16_9 (by decide) hf (fun hf => ?_) (fun hf => ?_)
  · exact a_vret (pc := 22) C dJ7_fill_d0a16_22 (Option.some.inj hf)
  · refine a_aload_n (pc := 12) C dJ7_fill_d0a16_12 0 rfl ?_
    refine a_iload_n (pc := 13) C dJ7_fill_d0a16_13 2 rfl ?_
    refine a_lload_n (pc := 14) C dJ7_fill_d0a16_14 1 rfl ?_
    refine a_last (pc := 15) C dJ7_fill_d0a16_15 hc0 hf (fun M2 hf => ?_)
    refine a_iinc (pc := 16) (v := 1) (fun v3 => [(3, .int v3), (0, .ref (ad c0)), (1, .long x1), (4, .int v1)]) C dJ7_fill_d0a16_16 2 rfl (by decide) (by decide) (fun _ => rfl) hf (fun v3 hf => ?_)
    refine a_goto (pc := 19) 6 C dJ7_fill_d0a16_19 (by decide) ?_
    exact a_sub [1, 2, 0, 3] rfl (hk6 (v3, M2) hf)
theorem dJ7_fill_53178_0 : decode cJ7_fill_53178 0 = .ok (.iconst 0, 1) := by decide +kernel
theorem dJ7_fill_53178_1 : decode cJ7_fill_53178 1 = .ok (.istore_n 2, 1) := by decide +kernel
theorem dJ7_fill_53178_2 : decode cJ7_fill_53178 2 = .ok (.aload_n 0, 1) := by decide +kernel
theorem dJ7_fill_53178_3 : decode cJ7_fill_53178 3 = .ok (.arraylength, 1) := by decide +kernel
theorem dJ7_fill_53178_4 : decode cJ7_fill_53178 4 = .ok (.istore_n 3, 1) := by decide +kernel
theorem dJ7_fill_53178_5 : decode cJ7_fill_53178 5 = .ok (.iload_n 2, 1) := by decide +kernel
theorem dJ7_fill_53178_6 : decode cJ7_fill_53178 6 = .ok (.iload_n 3, 1) := by decide +kernel
theorem dJ7_fill_53178_7 : decode cJ7_fill_53178 7 = .ok (.if_icmp .ge 13, 3) := by decide +kernel
theorem dJ7_fill_53178_10 : decode cJ7_fill_53178 10 = .ok (.aload_n 0, 1) := by decide +kernel
theorem dJ7_fill_53178_11 : decode cJ7_fill_53178 11 = .ok (.iload_n 2, 1) := by decide +kernel
theorem dJ7_fill_53178_12 : decode cJ7_fill_53178 12 = .ok (.iload_n 1, 1) := by decide +kernel
theorem dJ7_fill_53178_13 : decode cJ7_fill_53178 13 = .ok (.iastore, 1) := by decide +kernel
theorem dJ7_fill_53178_14 : decode cJ7_fill_53178 14 = .ok (.iinc 2 1, 3) := by decide +kernel
theorem dJ7_fill_53178_17 : decode cJ7_fill_53178 17 = .ok (.goto (-12), 3) := by decide +kernel
theorem dJ7_fill_53178_20 : decode cJ7_fill_53178 20 = .ok (.return_, 1) := by decide +kernel
def f_J7_fill_53178 (N : Nat) (c0 : Nat) (n0 : Nat) (x1 : Int32) (M : Mem) : Option (Mem) := nm (Int32.ofNat n0) (fun v1 => lp (fun (k5 : (Int32 × Mem) → Option (Mem)) (a5 : Int32 × Mem) => if v1 ≤ a5.1 then (some a5.2) else (ck (inb a5.1 n0) (nm (setI a5.2 c0 a5.1.toNatClampNeg x1) (fun M2 => nm (a5.1 + (1 : Int32)) (fun v3 => k5 (v3, M2)))))) N ((0 : Int32), M))
set_option maxRecDepth 100000 in
set_option maxHeartbeats 4000000 in
theorem c_J7_fill_53178 {l : Launch} {D : va_G} {ac : Nat → ClassId} {A : Nat → Prop} {tab : List Ds} {ad : Nat → Nat} {rest : va_W} (N : Nat) (c0 : Nat) (n0 : Nat) (x1 : Int32) (hc0 : tab[c0]? = some (.inr (0, n0, none))) (M : Mem)  (M0 : Mem) (hf : f_J7_fill_53178 N c0 n0 x1 M = some M0) : CtV l D ac A tab ad rest yJ7_fill_53178 cJ7_fill_53178 4  1 [.ref (ad c0), .int x1] M  M0 := by
  refine ct_ofV (own := RJ7) (by decide +kernel) rfl (Nat.le_of_ble_eq_true rfl) ?_
  intro p e s m args below meth c C
  unfold f_J7_fill_53178 at hf
  refine a_L (L' := [(0, .ref (ad c0)), (1, .int x1)]) rfl ?_
  refine a_iconst (pc := 0) (v := 0) C dJ7_fill_53178_0 (by decide) ?_
  refine a_istore_n (pc := 1) [(2, .int (0 : Int32)), (0, .ref (ad c0)), (1, .int x1)] C dJ7_fill_53178_1 (by decide) rfl ?_
  refine a_aload_n (pc := 2) C dJ7_fill_53178_2 1 rfl ?_
  refine a_alen (pc := 3) C dJ7_fill_53178_3 hc0 rfl rfl ?_
  refine a_nmi hf (fun v1 hf => ?_)
  refine a_istore_n (pc := 4) [(3, .int v1), (2, .int (0 : Int32)), (0, .ref (ad c0)), (1, .int x1)] C dJ7_fill_53178_4 (by decide) rfl ?_
  refine a_sub [2, 3, 1, 0] rfl ?_
  refine a_lp 5 (fun a5 : Int32 × Mem => [(0, .ref (ad c0)), (1, .int x1), (2, .int a5.1), (3, .int v1)]) (fun a5 : Int32 × Mem => []) (fun a5 : Int32 × Mem => a5.2) (fun k5 a5 hk5 hf => ?_) N ((0 : Int32), M) hf
  refine a_iload_n (pc := 5) C dJ7_fill_53178_5 2 rfl ?_
  refine a_iload_n (pc := 6) C dJ7_fill_53178_6 3 rfl ?_
  refine a_icmp_ge (pc := 7) 20 C dJ7_fill_53178_7 (by decide) hf (fun hf => ?_) (fun hf => ?_)
  · exact a_vret (pc := 20) C dJ7_fill_53178_20 (Option.some.inj hf)
  · refine a_aload_n (pc := 10) C dJ7_fill_53178_10 0 rfl ?_
    refine a_iload_n (pc := 11) C dJ7_fill_53178_11 2 rfl ?_
    refine a_iload_n (pc := 12) C dJ7_fill_53178_12 1 rfl ?_
    refine a_iast (pc := 13) C dJ7_fill_53178_13 hc0 hf (fun M2 hf => ?_)
    refine a_iinc (pc := 14) (v := 1) (fun v3 => [(2, .int v3), (0, .ref (ad c0)), (1, .int x1), (3, .int v1)]) C dJ7_fill_53178_14 2 rfl (by decide) (by decide) (fun _ => rfl) hf (fun v3 hf => ?_)
    refine a_goto (pc := 17) 5 C dJ7_fill_53178_17 (by decide) ?_
    exact a_sub [1, 2, 0, 3] rfl (hk5 (v3, M2) hf)
theorem dX0_takeFraction_0 : decode cX0_takeFraction 0 = .ok (.lload_n 1, 1) := by decide +kernel
theorem dX0_takeFraction_1 : decode cX0_takeFraction 1 = .ok (.lconst 0, 1) := by decide +kernel
theorem dX0_takeFraction_2 : decode cX0_takeFraction 2 = .ok (.lcmp, 1) := by decide +kernel
theorem dX0_takeFraction_3 : decode cX0_takeFraction 3 = .ok (.ifCond .le 8, 3) := by decide +kernel
theorem dX0_takeFraction_6 : decode cX0_takeFraction 6 = .ok (.lload_n 1, 1) := by decide +kernel
theorem dX0_takeFraction_7 : decode cX0_takeFraction 7 = .ok (.lneg, 1) := by decide +kernel
theorem dX0_takeFraction_8 : decode cX0_takeFraction 8 = .ok (.goto 4, 3) := by decide +kernel
theorem dX0_takeFraction_11 : decode cX0_takeFraction 11 = .ok (.lload_n 1, 1) := by decide +kernel
theorem dX0_takeFraction_12 : decode cX0_takeFraction 12 = .ok (.lstore 5, 2) := by decide +kernel
theorem dX0_takeFraction_14 : decode cX0_takeFraction 14 = .ok (.lload_n 3, 1) := by decide +kernel
theorem dX0_takeFraction_15 : decode cX0_takeFraction 15 = .ok (.lconst 0, 1) := by decide +kernel
theorem dX0_takeFraction_16 : decode cX0_takeFraction 16 = .ok (.lcmp, 1) := by decide +kernel
theorem dX0_takeFraction_17 : decode cX0_takeFraction 17 = .ok (.ifCond .le 8, 3) := by decide +kernel
theorem dX0_takeFraction_20 : decode cX0_takeFraction 20 = .ok (.lload_n 3, 1) := by decide +kernel
theorem dX0_takeFraction_21 : decode cX0_takeFraction 21 = .ok (.lneg, 1) := by decide +kernel
theorem dX0_takeFraction_22 : decode cX0_takeFraction 22 = .ok (.goto 4, 3) := by decide +kernel
theorem dX0_takeFraction_25 : decode cX0_takeFraction 25 = .ok (.lload_n 3, 1) := by decide +kernel
theorem dX0_takeFraction_26 : decode cX0_takeFraction 26 = .ok (.lstore 7, 2) := by decide +kernel
theorem dX0_takeFraction_28 : decode cX0_takeFraction 28 = .ok (.lload 5, 2) := by decide +kernel
theorem dX0_takeFraction_30 : decode cX0_takeFraction 30 = .ok (.lload 7, 2) := by decide +kernel
theorem dX0_takeFraction_32 : decode cX0_takeFraction 32 = .ok (.invokestatic 35, 3) := by decide +kernel
theorem dX0_takeFraction_35 : decode cX0_takeFraction 35 = .ok (.lstore 9, 2) := by decide +kernel
theorem dX0_takeFraction_37 : decode cX0_takeFraction 37 = .ok (.lload 9, 2) := by decide +kernel
theorem dX0_takeFraction_39 : decode cX0_takeFraction 39 = .ok (.ldc2_w 39, 3) := by decide +kernel
theorem dX0_takeFraction_42 : decode cX0_takeFraction 42 = .ok (.lcmp, 1) := by decide +kernel
theorem dX0_takeFraction_43 : decode cX0_takeFraction 43 = .ok (.ifCond .ge 19, 3) := by decide +kernel
theorem dX0_takeFraction_46 : decode cX0_takeFraction 46 = .ok (.lload 5, 2) := by decide +kernel
theorem dX0_takeFraction_48 : decode cX0_takeFraction 48 = .ok (.lload 9, 2) := by decide +kernel
theorem dX0_takeFraction_50 : decode cX0_takeFraction 50 = .ok (.ldiv, 1) := by decide +kernel
theorem dX0_takeFraction_51 : decode cX0_takeFraction 51 = .ok (.lneg, 1) := by decide +kernel
theorem dX0_takeFraction_52 : decode cX0_takeFraction 52 = .ok (.lstore 5, 2) := by decide +kernel
theorem dX0_takeFraction_54 : decode cX0_takeFraction 54 = .ok (.lload 7, 2) := by decide +kernel
theorem dX0_takeFraction_56 : decode cX0_takeFraction 56 = .ok (.lload 9, 2) := by decide +kernel
theorem dX0_takeFraction_58 : decode cX0_takeFraction 58 = .ok (.ldiv, 1) := by decide +kernel
theorem dX0_takeFraction_59 : decode cX0_takeFraction 59 = .ok (.lneg, 1) := by decide +kernel
theorem dX0_takeFraction_60 : decode cX0_takeFraction 60 = .ok (.lstore 7, 2) := by decide +kernel
theorem dX0_takeFraction_62 : decode cX0_takeFraction 62 = .ok (.lload_n 1, 1) := by decide +kernel
theorem dX0_takeFraction_63 : decode cX0_takeFraction 63 = .ok (.lconst 0, 1) := by decide +kernel
theorem dX0_takeFraction_64 : decode cX0_takeFraction 64 = .ok (.lcmp, 1) := by decide +kernel
theorem dX0_takeFraction_65 : decode cX0_takeFraction 65 = .ok (.ifCond .ge 7, 3) := by decide +kernel
theorem dX0_takeFraction_68 : decode cX0_takeFraction 68 = .ok (.iconst 1, 1) := by decide +kernel
theorem dX0_takeFraction_69 : decode cX0_takeFraction 69 = .ok (.goto 4, 3) := by decide +kernel
theorem dX0_takeFraction_72 : decode cX0_takeFraction 72 = .ok (.iconst 0, 1) := by decide +kernel
theorem dX0_takeFraction_73 : decode cX0_takeFraction 73 = .ok (.lload_n 3, 1) := by decide +kernel
theorem dX0_takeFraction_74 : decode cX0_takeFraction 74 = .ok (.lconst 0, 1) := by decide +kernel
theorem dX0_takeFraction_75 : decode cX0_takeFraction 75 = .ok (.lcmp, 1) := by decide +kernel
theorem dX0_takeFraction_76 : decode cX0_takeFraction 76 = .ok (.ifCond .ge 7, 3) := by decide +kernel
theorem dX0_takeFraction_79 : decode cX0_takeFraction 79 = .ok (.iconst 1, 1) := by decide +kernel
theorem dX0_takeFraction_80 : decode cX0_takeFraction 80 = .ok (.goto 4, 3) := by decide +kernel
theorem dX0_takeFraction_83 : decode cX0_takeFraction 83 = .ok (.iconst 0, 1) := by decide +kernel
theorem dX0_takeFraction_84 : decode cX0_takeFraction 84 = .ok (.if_icmp .eq 7, 3) := by decide +kernel
theorem dX0_takeFraction_87 : decode cX0_takeFraction 87 = .ok (.iconst 1, 1) := by decide +kernel
theorem dX0_takeFraction_88 : decode cX0_takeFraction 88 = .ok (.goto 4, 3) := by decide +kernel
theorem dX0_takeFraction_91 : decode cX0_takeFraction 91 = .ok (.iconst 0, 1) := by decide +kernel
theorem dX0_takeFraction_92 : decode cX0_takeFraction 92 = .ok (.istore 11, 2) := by decide +kernel
theorem dX0_takeFraction_94 : decode cX0_takeFraction 94 = .ok (.lload 7, 2) := by decide +kernel
theorem dX0_takeFraction_96 : decode cX0_takeFraction 96 = .ok (.ldc2_w 41, 3) := by decide +kernel
theorem dX0_takeFraction_99 : decode cX0_takeFraction 99 = .ok (.lcmp, 1) := by decide +kernel
theorem dX0_takeFraction_100 : decode cX0_takeFraction 100 = .ok (.ifCond .eq 17, 3) := by decide +kernel
theorem dX0_takeFraction_103 : decode cX0_takeFraction 103 = .ok (.iload 11, 2) := by decide +kernel
theorem dX0_takeFraction_105 : decode cX0_takeFraction 105 = .ok (.ifCond .ne 15, 3) := by decide +kernel
theorem dX0_takeFraction_108 : decode cX0_takeFraction 108 = .ok (.lload 5, 2) := by decide +kernel
theorem dX0_takeFraction_110 : decode cX0_takeFraction 110 = .ok (.ldc2_w 41, 3) := by decide +kernel
theorem dX0_takeFraction_113 : decode cX0_takeFraction 113 = .ok (.lcmp, 1) := by decide +kernel
theorem dX0_takeFraction_114 : decode cX0_takeFraction 114 = .ok (.ifCond .ne 6, 3) := by decide +kernel
theorem dX0_takeFraction_117 : decode cX0_takeFraction 117 = .ok (.bipush (-5), 2) := by decide +kernel
theorem dX0_takeFraction_119 : decode cX0_takeFraction 119 = .ok (.ireturn, 1) := by decide +kernel
theorem dX0_takeFraction_120 : decode cX0_takeFraction 120 = .ok (.aload_n 0, 1) := by decide +kernel
theorem dX0_takeFraction_121 : decode cX0_takeFraction 121 = .ok (.iconst 1, 1) := by decide +kernel
theorem dX0_takeFraction_122 : decode cX0_takeFraction 122 = .ok (.putfield 11, 3) := by decide +kernel
theorem dX0_takeFraction_125 : decode cX0_takeFraction 125 = .ok (.aload_n 0, 1) := by decide +kernel
theorem dX0_takeFraction_126 : decode cX0_takeFraction 126 = .ok (.iload 11, 2) := by decide +kernel
theorem dX0_takeFraction_128 : decode cX0_takeFraction 128 = .ok (.ifCond .eq 8, 3) := by decide +kernel
theorem dX0_takeFraction_131 : decode cX0_takeFraction 131 = .ok (.lload 5, 2) := by decide +kernel
theorem dX0_takeFraction_133 : decode cX0_takeFraction 133 = .ok (.goto 6, 3) := by decide +kernel
theorem dX0_takeFraction_136 : decode cX0_takeFraction 136 = .ok (.lload 5, 2) := by decide +kernel
theorem dX0_takeFraction_138 : decode cX0_takeFraction 138 = .ok (.lneg, 1) := by decide +kernel
theorem dX0_takeFraction_139 : decode cX0_takeFraction 139 = .ok (.putfield 43, 3) := by decide +kernel
theorem dX0_takeFraction_142 : decode cX0_takeFraction 142 = .ok (.aload_n 0, 1) := by decide +kernel
theorem dX0_takeFraction_143 : decode cX0_takeFraction 143 = .ok (.lload 7, 2) := by decide +kernel
theorem dX0_takeFraction_145 : decode cX0_takeFraction 145 = .ok (.lneg, 1) := by decide +kernel
theorem dX0_takeFraction_146 : decode cX0_takeFraction 146 = .ok (.putfield 46, 3) := by decide +kernel
theorem dX0_takeFraction_149 : decode cX0_takeFraction 149 = .ok (.iconst 1, 1) := by decide +kernel
theorem dX0_takeFraction_150 : decode cX0_takeFraction 150 = .ok (.ireturn, 1) := by decide +kernel
def f_X0_takeFraction (N : Nat) (c0 : Nat) (x1 : Int64) (x3 : Int64) (M : Mem) : Option (Int32 × Mem) := jn (fun (a12 : Int64) => jn (fun (a26 : Int64) => bd (f_X7_commonPart N a12 a26 M) (fun v1 => jn (fun (a62 : Int64 × Int64) => jn (fun (a73 : Int32) => jn (fun (a84 : Int32) => jn (fun (a92 : Int32) => if (lg_cmp a62.2 (-9223372036854775808 : Int64)) = 0 then (some ((-5 : Int32), M)) else (jn (fun (a120 : Unit) => nm (setI M c0 0 (1 : Int32)) (fun M3 => jn (fun (a139 : Int64) => nm (setJ M3 c0 1 a139) (fun M4 => nm (setJ M4 c0 2 (-a62.2)) (fun M5 => some ((1 : Int32), M5)))) (fun (k139 : Int64 → Option (Int32 × Mem)) => if a92 = 0 then (k139 (-a62.1)) else (k139 a62.1)))) (fun (k120 : Unit → Option (Int32 × Mem)) => if a92 = 0 then (if (lg_cmp a62.1 (-9223372036854775808 : Int64)) = 0 then (some ((-5 : Int32), M)) else (k120 ())) else (k120 ())))) (fun (k92 : Int32 → Option (Int32 × Mem)) => if a73 = a84 then (k92 (0 : Int32)) else (k92 (1 : Int32)))) (fun (k84 : Int32 → Option (Int32 × Mem)) => if 0 ≤ (lg_cmp x3 (0 : Int64)) then (k84 (0 : Int32)) else (k84 (1 : Int32)))) (fun (k73 : Int32 → Option (Int32 × Mem)) => if 0 ≤ (lg_cmp x1 (0 : Int64)) then (k73 (0 : Int32)) else (k73 (1 : Int32)))) (fun (k62 : (Int64 × Int64) → Option (Int32 × Mem)) => if 0 ≤ (lg_cmp v1 (-1 : Int64)) then (k62 (a12, a26)) else (ck (¬ v1 = 0) (nm (-(a12 / v1)) (fun v6 => ck (¬ v1 = 0) (nm (-(a26 / v1)) (fun v7 => k62 (v6, v7))))))))) (fun (k26 : Int64 → Option (Int32 × Mem)) => if (lg_cmp x3 (0 : Int64)) ≤ 0 then (k26 x3) else (k26 (-x3)))) (fun (k12 : Int64 → Option (Int32 × Mem)) => if (lg_cmp x1 (0 : Int64)) ≤ 0 then (k12 x1) else (k12 (-x1)))
set_option maxRecDepth 100000 in
set_option maxHeartbeats 4000000 in
theorem c_X0_takeFraction {l : Launch} {D : va_G} {ac : Nat → ClassId} {A : Nat → Prop} {ad : Nat → Nat} {rest : va_W} (N : Nat) (c0 : Nat) (x1 : Int64) (x3 : Int64) (hc0 : HoldAt tabX c0) (M : Mem) (r0 : Int32) (M0 : Mem) (hf : f_X0_takeFraction N c0 x1 x3 M = some (r0, M0)) : CtI l D ac A tabX ad rest yX0_takeFraction cX0_takeFraction 12 .int 2 [.ref (ad c0), .long x1, .long x3] M r0 M0 := by
  refine ct_ofI (own := RX0) (by decide +kernel) rfl (Nat.le_of_ble_eq_true rfl) ?_
  intro p e s m args below meth c C
  unfold f_X0_takeFraction at hf
  refine a_L (L' := [(0, .ref (ad c0)), (1, .long x1), (3, .long x3)]) rfl ?_
  refine a_lload_n (pc := 0) C dX0_takeFraction_0 1 rfl ?_
  refine a_lconst (pc := 1) (v := 0) C dX0_takeFraction_1 (by decide) ?_
  refine a_lcmp (pc := 2) C dX0_takeFraction_2 ?_
  refine a_jn 12 (fun a12 : Int64 => [(0, .ref (ad c0)), (1, .long x1), (3, .long x3)]) (fun a12 : Int64 => [.long a12]) (fun a12 : Int64 => M) hf (fun a12 hf => ?_) (fun k12 hk12 hf => ?_)
  · refine a_lstore (pc := 12) [(5, .long a12), (0, .ref (ad c0)), (1, .long x1), (3, .long x3)] C dX0_takeFraction_12 (by decide) rfl ?_
    refine a_lload_n (pc := 14) C dX0_takeFraction_14 3 rfl ?_
    refine a_lconst (pc := 15) (v := 0) C dX0_takeFraction_15 (by decide) ?_
    refine a_lcmp (pc := 16) C dX0_takeFraction_16 ?_
    refine a_jn 26 (fun a26 : Int64 => [(0, .ref (ad c0)), (1, .long x1), (3, .long x3), (5, .long a12)]) (fun a26 : Int64 => [.long a26]) (fun a26 : Int64 => M) hf (fun a26 hf => ?_) (fun k26 hk26 hf => ?_)
    · refine a_lstore (pc := 26) [(7, .long a26), (0, .ref (ad c0)), (1, .long x1), (3, .long x3), (5, .long a12)] C dX0_takeFraction_26 (by decide) rfl ?_
      refine a_lload (pc := 28) C dX0_takeFraction_28 4 rfl ?_
      refine a_lload (pc := 30) C dX0_takeFraction_30 0 rfl ?_
      refine a_callN_Jr (pc := 32) (d' := 1) C dX0_takeFraction_32 C.2.2.2.2.2.1.1.2.2 mc_X7_commonPart ms_X7_commonPart [.long a12, .long a26] rfl (Nat.le_of_ble_eq_true rfl) (Nat.le_of_ble_eq_true rfl) rfl (Nat.le_of_ble_eq_true rfl) (fun r h => c_X7_commonPart N a12 a26  _  r h) hf (fun v1 hf => ?_)
      refine a_lstore (pc := 35) [(9, .long v1), (7, .long a26), (0, .ref (ad c0)), (1, .long x1), (3, .long x3), (5, .long a12)] C dX0_takeFraction_35 (by decide) rfl ?_
      refine a_lload (pc := 37) C dX0_takeFraction_37 0 rfl ?_
      refine a_ldc2 (pc := 39) C dX0_takeFraction_39 cj_X0_39 ?_
      refine a_lcmp (pc := 42) C dX0_takeFraction_42 ?_
      refine a_jn 62 (fun a62 : Int64 × Int64 => [(0, .ref (ad c0)), (1, .long x1), (3, .long x3), (5, .long a62.1), (7, .long a62.2)]) (fun a62 : Int64 × Int64 => []) (fun a62 : Int64 × Int64 => M) hf (fun a62 hf => ?_) (fun k62 hk62 hf => ?_)
      · refine a_lload_n (pc := 62) C dX0_takeFraction_62 1 rfl ?_
        refine a_lconst (pc := 63) (v := 0) C dX0_takeFraction_63 (by decide) ?_
        refine a_lcmp (pc := 64) C dX0_takeFraction_64 ?_
        refine a_jn 73 (fun a73 : Int32 => [(0, .ref (ad c0)), (3, .long x3), (5, .long a62.1), (7, .long a62.2)]) (fun a73 : Int32 => [.int a73]) (fun a73 : Int32 => M) hf (fun a73 hf => ?_) (fun k73 hk73 hf => ?_)
        · refine a_lload_n (pc := 73) C dX0_takeFraction_73 1 rfl ?_
          refine a_lconst (pc := 74) (v := 0) C dX0_takeFraction_74 (by decide) ?_
          refine a_lcmp (pc := 75) C dX0_takeFraction_75 ?_
          refine a_jn 84 (fun a84 : Int32 => [(0, .ref (ad c0)), (5, .long a62.1), (7, .long a62.2)]) (fun a84 : Int32 => [.int a84, .int a73]) (fun a84 : Int32 => M) hf (fun a84 hf => ?_) (fun k84 hk84 hf => ?_)
          · refine a_jn 92 (fun a92 : Int32 => [(0, .ref (ad c0)), (5, .long a62.1), (7, .long a62.2)]) (fun a92 : Int32 => [.int a92]) (fun a92 : Int32 => M) hf (fun a92 hf => ?_) (fun k92 hk92 hf => ?_)
            · refine a_istore (pc := 92) [(11, .int a92), (0, .ref (ad c0)), (5, .long a62.1), (7, .long a62.2)] C dX0_takeFraction_92 (by decide) rfl ?_
              refine a_lload (pc := 94) C dX0_takeFraction_94 3 rfl ?_
              refine a_ldc2 (pc := 96) C dX0_takeFraction_96 cj_X0_41 ?_
              refine a_lcmp (pc := 99) C dX0_takeFraction_99 ?_
              refine a_if_eq (pc := 100) 117 C dX0_takeFraction_100 (by decide) hf (fun hf => ?_) (fun hf => ?_)
              · refine a_bipush (pc := 117) (v := (-5)) C dX0_takeFraction_117 (by decide) ?_
                exact a_iret (pc := 119) C dX0_takeFraction_119 (so_1 hf) (so_2 hf)
              · refine a_iload (pc := 103) C dX0_takeFraction_103 0 rfl ?_
                refine a_jn 120 (fun a120 : Unit => [(0, .ref (ad c0)), (5, .long a62.1), (7, .long a62.2), (11, .int a92)]) (fun a120 : Unit => []) (fun a120 : Unit => M) hf (fun a120 hf => ?_) (fun k120 hk120 hf => ?_)
                · refine a_aload_n (pc := 120) C dX0_takeFraction_120 0 rfl ?_
                  refine a_iconst (pc := 121) (v := 1) C dX0_takeFraction_121 (by decide) ?_
                  refine a_putI (pc := 122) C dX0_takeFraction_122 fl_X0_11 hc0 rfl hf (fun M3 hf => ?_)
                  refine a_aload_n (pc := 125) C dX0_takeFraction_125 0 rfl ?_
                  refine a_iload (pc := 126) C dX0_takeFraction_126 3 rfl ?_
                  refine a_jn 139 (fun a139 : Int64 => [(0, .ref (ad c0)), (7, .long a62.2)]) (fun a139 : Int64 => [.long a139, .ref (ad c0)]) (fun a139 : Int64 => M3) hf (fun a139 hf => ?_) (fun k139 hk139 hf => ?_)
                  · refine a_putJ (pc := 139) C dX0_takeFraction_139 fl_X0_43 hc0 rfl hf (fun M4 hf => ?_)
                    refine a_aload_n (pc := 142) C dX0_takeFraction_142 0 rfl ?_
                    refine a_lload (pc := 143) C dX0_takeFraction_143 1 rfl ?_
                    refine a_lneg (pc := 145) C dX0_takeFraction_145 ?_
                    refine a_putJ (pc := 146) C dX0_takeFraction_146 fl_X0_46 hc0 rfl hf (fun M5 hf => ?_)
                    refine a_iconst (pc := 149) (v := 1) C dX0_takeFraction_149 (by decide) ?_
                    exact a_iret (pc := 150) C dX0_takeFraction_150 (so_1 hf) (so_2 hf)
                  · refine a_if_eq (pc := 128) 136 C dX0_takeFraction_128 (by decide) hf (fun hf => ?_) (fun hf => ?_)
                    · refine a_lload (pc := 136) C dX0_takeFraction_136 1 rfl ?_
                      refine a_lneg (pc := 138) C dX0_takeFraction_138 ?_
                      exact a_sub [0, 2] rfl (hk139 (-a62.1) hf)
                    · refine a_lload (pc := 131) C dX0_takeFraction_131 1 rfl ?_
                      refine a_goto (pc := 133) 139 C dX0_takeFraction_133 (by decide) ?_
                      exact a_sub [0, 2] rfl (hk139 a62.1 hf)
                · refine a_if_ne (pc := 105) 120 C dX0_takeFraction_105 (by decide) hf (fun hf => ?_) (fun hf => ?_)
                  · exact a_sub [1, 2, 3, 0] rfl (hk120 () hf)
                  · refine a_lload (pc := 108) C dX0_takeFraction_108 2 rfl ?_
                    refine a_ldc2 (pc := 110) C dX0_takeFraction_110 cj_X0_41 ?_
                    refine a_lcmp (pc := 113) C dX0_takeFraction_113 ?_
                    refine a_if_ne (pc := 114) 120 C dX0_takeFraction_114 (by decide) hf (fun hf => ?_) (fun hf => ?_)
                    · exact a_sub [1, 2, 3, 0] rfl (hk120 () hf)
                    · refine a_bipush (pc := 117) (v := (-5)) C dX0_takeFraction_117 (by decide) ?_
                      exact a_iret (pc := 119) C dX0_takeFraction_119 (so_1 hf) (so_2 hf)
            · refine a_icmp_eq (pc := 84) 91 C dX0_takeFraction_84 (by decide) hf (fun hf => ?_) (fun hf => ?_)
              · refine a_iconst (pc := 91) (v := 0) C dX0_takeFraction_91 (by decide) ?_
                exact a_sub [0, 1, 2] rfl (hk92 (0 : Int32) hf)
              · refine a_iconst (pc := 87) (v := 1) C dX0_takeFraction_87 (by decide) ?_
                refine a_goto (pc := 88) 92 C dX0_takeFraction_88 (by decide) ?_
                exact a_sub [0, 1, 2] rfl (hk92 (1 : Int32) hf)
          · refine a_if_ge (pc := 76) 83 C dX0_takeFraction_76 (by decide) hf (fun hf => ?_) (fun hf => ?_)
            · refine a_iconst (pc := 83) (v := 0) C dX0_takeFraction_83 (by decide) ?_
              exact a_sub [0, 2, 3] rfl (hk84 (0 : Int32) hf)
            · refine a_iconst (pc := 79) (v := 1) C dX0_takeFraction_79 (by decide) ?_
              refine a_goto (pc := 80) 84 C dX0_takeFraction_80 (by decide) ?_
              exact a_sub [0, 2, 3] rfl (hk84 (1 : Int32) hf)
        · refine a_if_ge (pc := 65) 72 C dX0_takeFraction_65 (by decide) hf (fun hf => ?_) (fun hf => ?_)
          · refine a_iconst (pc := 72) (v := 0) C dX0_takeFraction_72 (by decide) ?_
            exact a_sub [0, 2, 3, 4] rfl (hk73 (0 : Int32) hf)
          · refine a_iconst (pc := 68) (v := 1) C dX0_takeFraction_68 (by decide) ?_
            refine a_goto (pc := 69) 73 C dX0_takeFraction_69 (by decide) ?_
            exact a_sub [0, 2, 3, 4] rfl (hk73 (1 : Int32) hf)
      · refine a_if_ge (pc := 43) 62 C dX0_takeFraction_43 (by decide) hf (fun hf => ?_) (fun hf => ?_)
        · exact a_sub [2, 3, 4, 5, 1] rfl (hk62 (a12, a26) hf)
        · refine a_lload (pc := 46) C dX0_takeFraction_46 5 rfl ?_
          refine a_lload (pc := 48) C dX0_takeFraction_48 0 rfl ?_
          refine a_ldiv (pc := 50) C dX0_takeFraction_50 hf (fun hf => ?_)
          refine a_lneg (pc := 51) C dX0_takeFraction_51 ?_
          refine a_nml hf (fun v6 hf => ?_)
          refine a_lstore (pc := 52) [(5, .long v6), (9, .long v1), (7, .long a26), (0, .ref (ad c0)), (1, .long x1), (3, .long x3)] C dX0_takeFraction_52 (by decide) rfl ?_
          refine a_lload (pc := 54) C dX0_takeFraction_54 2 rfl ?_
          refine a_lload (pc := 56) C dX0_takeFraction_56 1 rfl ?_
          refine a_ldiv (pc := 58) C dX0_takeFraction_58 hf (fun hf => ?_)
          refine a_lneg (pc := 59) C dX0_takeFraction_59 ?_
          refine a_nml hf (fun v7 hf => ?_)
          refine a_lstore (pc := 60) [(7, .long v7), (5, .long v6), (9, .long v1), (0, .ref (ad c0)), (1, .long x1), (3, .long x3)] C dX0_takeFraction_60 (by decide) rfl ?_
          exact a_sub [3, 4, 5, 1, 0] rfl (hk62 (v6, v7) hf)
    · refine a_if_le (pc := 17) 25 C dX0_takeFraction_17 (by decide) hf (fun hf => ?_) (fun hf => ?_)
      · refine a_lload_n (pc := 25) C dX0_takeFraction_25 3 rfl ?_
        exact a_sub [1, 2, 3, 0] rfl (hk26 x3 hf)
      · refine a_lload_n (pc := 20) C dX0_takeFraction_20 3 rfl ?_
        refine a_lneg (pc := 21) C dX0_takeFraction_21 ?_
        refine a_goto (pc := 22) 26 C dX0_takeFraction_22 (by decide) ?_
        exact a_sub [1, 2, 3, 0] rfl (hk26 (-x3) hf)
  · refine a_if_le (pc := 3) 11 C dX0_takeFraction_3 (by decide) hf (fun hf => ?_) (fun hf => ?_)
    · refine a_lload_n (pc := 11) C dX0_takeFraction_11 1 rfl ?_
      exact a_sub [0, 1, 2] rfl (hk12 x1 hf)
    · refine a_lload_n (pc := 6) C dX0_takeFraction_6 1 rfl ?_
      refine a_lneg (pc := 7) C dX0_takeFraction_7 ?_
      refine a_goto (pc := 8) 12 C dX0_takeFraction_8 (by decide) ?_
      exact a_sub [0, 1, 2] rfl (hk12 (-x1) hf)
theorem dX1_areJoined_0 : decode cX1_areJoined 0 = .ok (.iconst 0, 1) := by decide +kernel
theorem dX1_areJoined_1 : decode cX1_areJoined 1 = .ok (.istore_n 3, 1) := by decide +kernel
theorem dX1_areJoined_2 : decode cX1_areJoined 2 = .ok (.iload_n 3, 1) := by decide +kernel
theorem dX1_areJoined_3 : decode cX1_areJoined 3 = .ok (.aload_n 0, 1) := by decide +kernel
theorem dX1_areJoined_4 : decode cX1_areJoined 4 = .ok (.getfield 35, 3) := by decide +kernel
theorem dX1_areJoined_7 : decode cX1_areJoined 7 = .ok (.if_icmp .ge 39, 3) := by decide +kernel
theorem dX1_areJoined_10 : decode cX1_areJoined 10 = .ok (.aload_n 0, 1) := by decide +kernel
theorem dX1_areJoined_11 : decode cX1_areJoined 11 = .ok (.getfield 22, 3) := by decide +kernel
theorem dX1_areJoined_14 : decode cX1_areJoined 14 = .ok (.iload_n 3, 1) := by decide +kernel
theorem dX1_areJoined_15 : decode cX1_areJoined 15 = .ok (.iaload, 1) := by decide +kernel
theorem dX1_areJoined_16 : decode cX1_areJoined 16 = .ok (.iload_n 1, 1) := by decide +kernel
theorem dX1_areJoined_17 : decode cX1_areJoined 17 = .ok (.iload_n 2, 1) := by decide +kernel
theorem dX1_areJoined_18 : decode cX1_areJoined 18 = .ok (.invokestatic 38, 3) := by decide +kernel
theorem dX1_areJoined_21 : decode cX1_areJoined 21 = .ok (.if_icmp .ne 19, 3) := by decide +kernel
theorem dX1_areJoined_24 : decode cX1_areJoined 24 = .ok (.aload_n 0, 1) := by decide +kernel
theorem dX1_areJoined_25 : decode cX1_areJoined 25 = .ok (.getfield 25, 3) := by decide +kernel
theorem dX1_areJoined_28 : decode cX1_areJoined 28 = .ok (.iload_n 3, 1) := by decide +kernel
theorem dX1_areJoined_29 : decode cX1_areJoined 29 = .ok (.iaload, 1) := by decide +kernel
theorem dX1_areJoined_30 : decode cX1_areJoined 30 = .ok (.iload_n 1, 1) := by decide +kernel
theorem dX1_areJoined_31 : decode cX1_areJoined 31 = .ok (.iload_n 2, 1) := by decide +kernel
theorem dX1_areJoined_32 : decode cX1_areJoined 32 = .ok (.invokestatic 44, 3) := by decide +kernel
theorem dX1_areJoined_35 : decode cX1_areJoined 35 = .ok (.if_icmp .ne 5, 3) := by decide +kernel
theorem dX1_areJoined_38 : decode cX1_areJoined 38 = .ok (.iconst 1, 1) := by decide +kernel
theorem dX1_areJoined_39 : decode cX1_areJoined 39 = .ok (.ireturn, 1) := by decide +kernel
theorem dX1_areJoined_40 : decode cX1_areJoined 40 = .ok (.iinc 3 1, 3) := by decide +kernel
theorem dX1_areJoined_43 : decode cX1_areJoined 43 = .ok (.goto (-41), 3) := by decide +kernel
theorem dX1_areJoined_46 : decode cX1_areJoined 46 = .ok (.iconst 0, 1) := by decide +kernel
theorem dX1_areJoined_47 : decode cX1_areJoined 47 = .ok (.ireturn, 1) := by decide +kernel
def f_X1_areJoined (N : Nat) (c0 : Nat) (x1 : Int32) (x2 : Int32) (M : Mem) : Option (Int32) := lp (fun (k2 : Int32 → Option (Int32)) (a2 : Int32) => if (M.1 c0 1) ≤ a2 then (some (0 : Int32)) else (ck (inb a2 10) (bd (f_J9_min_7cf53 N x1 x2 M) (fun v1 => jn (fun (a40 : Unit) => nm (a2 + (1 : Int32)) (fun v3 => k2 v3)) (fun (k40 : Unit → Option (Int32)) => if (M.1 (c0 + 3) a2.toNatClampNeg) = v1 then (ck (inb a2 10) (bd (f_J9_max_7cf53 N x1 x2 M) (fun v4 => if (M.1 (c0 + 4) a2.toNatClampNeg) = v4 then (some (1 : Int32)) else (k40 ())))) else (k40 ())))))) N (0 : Int32)
set_option maxRecDepth 100000 in
set_option maxHeartbeats 4000000 in
theorem c_X1_areJoined {l : Launch} {D : va_G} {ac : Nat → ClassId} {A : Nat → Prop} {ad : Nat → Nat} {rest : va_W} (N : Nat) (c0 : Nat) (x1 : Int32) (x2 : Int32) (hc0 : NetAt tabX c0) (M : Mem) (r0 : Int32) (hf : f_X1_areJoined N c0 x1 x2 M = some r0) : CtI l D ac A tabX ad rest yX1_areJoined cX1_areJoined 4 .boolean 2 [.ref (ad c0), .int x1, .int x2] M r0 M := by
  refine ct_ofI (own := RX1) (by decide +kernel) rfl (Nat.le_of_ble_eq_true rfl) ?_
  intro p e s m args below meth c C
  unfold f_X1_areJoined at hf
  refine a_L (L' := [(0, .ref (ad c0)), (1, .int x1), (2, .int x2)]) rfl ?_
  refine a_iconst (pc := 0) (v := 0) C dX1_areJoined_0 (by decide) ?_
  refine a_istore_n (pc := 1) [(3, .int (0 : Int32)), (0, .ref (ad c0)), (1, .int x1), (2, .int x2)] C dX1_areJoined_1 (by decide) rfl ?_
  refine a_sub [1, 2, 3, 0] rfl ?_
  refine a_lp 2 (fun a2 : Int32 => [(0, .ref (ad c0)), (1, .int x1), (2, .int x2), (3, .int a2)]) (fun a2 : Int32 => []) (fun a2 : Int32 => M) (fun k2 a2 hk2 hf => ?_) N (0 : Int32) hf
  refine a_iload_n (pc := 2) C dX1_areJoined_2 3 rfl ?_
  refine a_aload_n (pc := 3) C dX1_areJoined_3 0 rfl ?_
  refine a_getI (pc := 4) C dX1_areJoined_4 fl_X1_35 hc0.1 rfl ?_
  refine a_icmp_ge (pc := 7) 46 C dX1_areJoined_7 (by decide) hf (fun hf => ?_) (fun hf => ?_)
  · refine a_iconst (pc := 46) (v := 0) C dX1_areJoined_46 (by decide) ?_
    exact a_zret (pc := 47) C dX1_areJoined_47 (Or.inl rfl) (Option.some.inj hf) rfl
  · refine a_aload_n (pc := 10) C dX1_areJoined_10 0 rfl ?_
    refine a_getR (pc := 11) C dX1_areJoined_11 fl_X1_22 hc0.1 rfl ?_
    refine a_iload_n (pc := 14) C dX1_areJoined_14 3 rfl ?_
    refine a_iald (pc := 15) C dX1_areJoined_15 hc0.2.2.2.1 hf (fun hf => ?_)
    refine a_iload_n (pc := 16) C dX1_areJoined_16 1 rfl ?_
    refine a_iload_n (pc := 17) C dX1_areJoined_17 2 rfl ?_
    refine a_callS_Ir (pc := 18) (d' := 1) C dX1_areJoined_18 ml_X1_38 mc_J9_min_7cf53 ms_J9_min_7cf53 [.int x1, .int x2] rfl (Nat.le_of_ble_eq_true rfl) (Nat.le_of_ble_eq_true rfl) rfl (Nat.le_of_ble_eq_true rfl) (fun r h => c_J9_min_7cf53 N x1 x2  _  r h) hf (fun v1 hf => ?_)
    refine a_jn 40 (fun a40 : Unit => [(0, .ref (ad c0)), (1, .int x1), (2, .int x2), (3, .int a2)]) (fun a40 : Unit => []) (fun a40 : Unit => M) hf (fun a40 hf => ?_) (fun k40 hk40 hf => ?_)
    · refine a_iinc (pc := 40) (v := 1) (fun v3 => [(3, .int v3), (0, .ref (ad c0)), (1, .int x1), (2, .int x2)]) C dX1_areJoined_40 3 rfl (by decide) (by decide) (fun _ => rfl) hf (fun v3 hf => ?_)
      refine a_goto (pc := 43) 2 C dX1_areJoined_43 (by decide) ?_
      exact a_sub [1, 2, 3, 0] rfl (hk2 v3 hf)
    · refine a_icmp_ne (pc := 21) 40 C dX1_areJoined_21 (by decide) hf (fun hf => ?_) (fun hf => ?_)
      · exact a_sub [0, 1, 2, 3] rfl (hk40 () hf)
      · refine a_aload_n (pc := 24) C dX1_areJoined_24 0 rfl ?_
        refine a_getR (pc := 25) C dX1_areJoined_25 fl_X1_25 hc0.1 rfl ?_
        refine a_iload_n (pc := 28) C dX1_areJoined_28 3 rfl ?_
        refine a_iald (pc := 29) C dX1_areJoined_29 hc0.2.2.2.2.1 hf (fun hf => ?_)
        refine a_iload_n (pc := 30) C dX1_areJoined_30 1 rfl ?_
        refine a_iload_n (pc := 31) C dX1_areJoined_31 2 rfl ?_
        refine a_callS_Ir (pc := 32) (d' := 1) C dX1_areJoined_32 ml_X1_44 mc_J9_max_7cf53 ms_J9_max_7cf53 [.int x1, .int x2] rfl (Nat.le_of_ble_eq_true rfl) (Nat.le_of_ble_eq_true rfl) rfl (Nat.le_of_ble_eq_true rfl) (fun r h => c_J9_max_7cf53 N x1 x2  _  r h) hf (fun v4 hf => ?_)
        refine a_icmp_ne (pc := 35) 40 C dX1_areJoined_35 (by decide) hf (fun hf => ?_) (fun hf => ?_)
        · exact a_sub [0, 1, 2, 3] rfl (hk40 () hf)
        · refine a_iconst (pc := 38) (v := 1) C dX1_areJoined_38 (by decide) ?_
          exact a_zret (pc := 39) C dX1_areJoined_39 (Or.inr rfl) (Option.some.inj hf) rfl
theorem dX1_gapOf_0 : decode cX1_gapOf 0 = .ok (.aload_n 0, 1) := by decide +kernel
theorem dX1_gapOf_1 : decode cX1_gapOf 1 = .ok (.getfield 15, 3) := by decide +kernel
theorem dX1_gapOf_4 : decode cX1_gapOf 4 = .ok (.iload_n 1, 1) := by decide +kernel
theorem dX1_gapOf_5 : decode cX1_gapOf 5 = .ok (.iaload, 1) := by decide +kernel
theorem dX1_gapOf_6 : decode cX1_gapOf 6 = .ok (.tableswitch 95 1 4 #[30, 39, 52, 66], 30) := by decide +kernel
theorem dX1_gapOf_36 : decode cX1_gapOf 36 = .ok (.aload_n 0, 1) := by decide +kernel
theorem dX1_gapOf_37 : decode cX1_gapOf 37 = .ok (.getfield 19, 3) := by decide +kernel
theorem dX1_gapOf_40 : decode cX1_gapOf 40 = .ok (.iload_n 1, 1) := by decide +kernel
theorem dX1_gapOf_41 : decode cX1_gapOf 41 = .ok (.iaload, 1) := by decide +kernel
theorem dX1_gapOf_42 : decode cX1_gapOf 42 = .ok (.iconst 1, 1) := by decide +kernel
theorem dX1_gapOf_43 : decode cX1_gapOf 43 = .ok (.iadd, 1) := by decide +kernel
theorem dX1_gapOf_44 : decode cX1_gapOf 44 = .ok (.ireturn, 1) := by decide +kernel
theorem dX1_gapOf_45 : decode cX1_gapOf 45 = .ok (.iconst 1, 1) := by decide +kernel
theorem dX1_gapOf_46 : decode cX1_gapOf 46 = .ok (.aload_n 0, 1) := by decide +kernel
theorem dX1_gapOf_47 : decode cX1_gapOf 47 = .ok (.getfield 19, 3) := by decide +kernel
theorem dX1_gapOf_50 : decode cX1_gapOf 50 = .ok (.iload_n 1, 1) := by decide +kernel
theorem dX1_gapOf_51 : decode cX1_gapOf 51 = .ok (.iaload, 1) := by decide +kernel
theorem dX1_gapOf_52 : decode cX1_gapOf 52 = .ok (.iconst 1, 1) := by decide +kernel
theorem dX1_gapOf_53 : decode cX1_gapOf 53 = .ok (.isub, 1) := by decide +kernel
theorem dX1_gapOf_54 : decode cX1_gapOf 54 = .ok (.invokestatic 44, 3) := by decide +kernel
theorem dX1_gapOf_57 : decode cX1_gapOf 57 = .ok (.ireturn, 1) := by decide +kernel
theorem dX1_gapOf_58 : decode cX1_gapOf 58 = .ok (.aload_n 0, 1) := by decide +kernel
theorem dX1_gapOf_59 : decode cX1_gapOf 59 = .ok (.getfield 25, 3) := by decide +kernel
theorem dX1_gapOf_62 : decode cX1_gapOf 62 = .ok (.iload_n 1, 1) := by decide +kernel
theorem dX1_gapOf_63 : decode cX1_gapOf 63 = .ok (.iaload, 1) := by decide +kernel
theorem dX1_gapOf_64 : decode cX1_gapOf 64 = .ok (.aload_n 0, 1) := by decide +kernel
theorem dX1_gapOf_65 : decode cX1_gapOf 65 = .ok (.getfield 22, 3) := by decide +kernel
theorem dX1_gapOf_68 : decode cX1_gapOf 68 = .ok (.iload_n 1, 1) := by decide +kernel
theorem dX1_gapOf_69 : decode cX1_gapOf 69 = .ok (.iaload, 1) := by decide +kernel
theorem dX1_gapOf_70 : decode cX1_gapOf 70 = .ok (.isub, 1) := by decide +kernel
theorem dX1_gapOf_71 : decode cX1_gapOf 71 = .ok (.ireturn, 1) := by decide +kernel
theorem dX1_gapOf_72 : decode cX1_gapOf 72 = .ok (.aload_n 0, 1) := by decide +kernel
theorem dX1_gapOf_73 : decode cX1_gapOf 73 = .ok (.getfield 22, 3) := by decide +kernel
theorem dX1_gapOf_76 : decode cX1_gapOf 76 = .ok (.iload_n 1, 1) := by decide +kernel
theorem dX1_gapOf_77 : decode cX1_gapOf 77 = .ok (.iaload, 1) := by decide +kernel
theorem dX1_gapOf_78 : decode cX1_gapOf 78 = .ok (.aload_n 0, 1) := by decide +kernel
theorem dX1_gapOf_79 : decode cX1_gapOf 79 = .ok (.getfield 25, 3) := by decide +kernel
theorem dX1_gapOf_82 : decode cX1_gapOf 82 = .ok (.iload_n 1, 1) := by decide +kernel
theorem dX1_gapOf_83 : decode cX1_gapOf 83 = .ok (.iaload, 1) := by decide +kernel
theorem dX1_gapOf_84 : decode cX1_gapOf 84 = .ok (.iadd, 1) := by decide +kernel
theorem dX1_gapOf_85 : decode cX1_gapOf 85 = .ok (.iconst 2, 1) := by decide +kernel
theorem dX1_gapOf_86 : decode cX1_gapOf 86 = .ok (.irem, 1) := by decide +kernel
theorem dX1_gapOf_87 : decode cX1_gapOf 87 = .ok (.ifCond .ne 7, 3) := by decide +kernel
theorem dX1_gapOf_90 : decode cX1_gapOf 90 = .ok (.iconst 2, 1) := by decide +kernel
theorem dX1_gapOf_91 : decode cX1_gapOf 91 = .ok (.goto 9, 3) := by decide +kernel
theorem dX1_gapOf_94 : decode cX1_gapOf 94 = .ok (.aload_n 0, 1) := by decide +kernel
theorem dX1_gapOf_95 : decode cX1_gapOf 95 = .ok (.getfield 19, 3) := by decide +kernel
theorem dX1_gapOf_98 : decode cX1_gapOf 98 = .ok (.iload_n 1, 1) := by decide +kernel
theorem dX1_gapOf_99 : decode cX1_gapOf 99 = .ok (.iaload, 1) := by decide +kernel
theorem dX1_gapOf_100 : decode cX1_gapOf 100 = .ok (.ireturn, 1) := by decide +kernel
theorem dX1_gapOf_101 : decode cX1_gapOf 101 = .ok (.aload_n 0, 1) := by decide +kernel
theorem dX1_gapOf_102 : decode cX1_gapOf 102 = .ok (.getfield 19, 3) := by decide +kernel
theorem dX1_gapOf_105 : decode cX1_gapOf 105 = .ok (.iload_n 1, 1) := by decide +kernel
theorem dX1_gapOf_106 : decode cX1_gapOf 106 = .ok (.iaload, 1) := by decide +kernel
theorem dX1_gapOf_107 : decode cX1_gapOf 107 = .ok (.ireturn, 1) := by decide +kernel
def f_X1_gapOf (N : Nat) (c0 : Nat) (x1 : Int32) (M : Mem) : Option (Int32) := ck (inb x1 10) (nm (M.1 (c0 + 1) x1.toNatClampNeg) (fun v1 => if v1 = 1 then (ck (inb x1 10) (some ((M.1 (c0 + 2) x1.toNatClampNeg) + (1 : Int32)))) else if v1 = 2 then (ck (inb x1 10) (bd (f_J9_max_7cf53 N (1 : Int32) ((M.1 (c0 + 2) x1.toNatClampNeg) - (1 : Int32)) M) (fun v4 => some v4))) else if v1 = 3 then (ck (inb x1 10) (ck (inb x1 10) (some ((M.1 (c0 + 4) x1.toNatClampNeg) - (M.1 (c0 + 3) x1.toNatClampNeg))))) else if v1 = 4 then (ck (inb x1 10) (ck (inb x1 10) (ck (¬ (2 : Int32) = 0) (if (((M.1 (c0 + 3) x1.toNatClampNeg) + (M.1 (c0 + 4) x1.toNatClampNeg)) - ((M.1 (c0 + 3) x1.toNatClampNeg) + (M.1 (c0 + 4) x1.toNatClampNeg)) / (2 : Int32) * (2 : Int32)) = 0 then (some (2 : Int32)) else (ck (inb x1 10) (some (M.1 (c0 + 2) x1.toNatClampNeg))))))) else (ck (inb x1 10) (some (M.1 (c0 + 2) x1.toNatClampNeg)))))
set_option maxRecDepth 100000 in
set_option maxHeartbeats 4000000 in
theorem c_X1_gapOf {l : Launch} {D : va_G} {ac : Nat → ClassId} {A : Nat → Prop} {ad : Nat → Nat} {rest : va_W} (N : Nat) (c0 : Nat) (x1 : Int32) (hc0 : NetAt tabX c0) (M : Mem) (r0 : Int32) (hf : f_X1_gapOf N c0 x1 M = some r0) : CtI l D ac A tabX ad rest yX1_gapOf cX1_gapOf 2 .int 2 [.ref (ad c0), .int x1] M r0 M := by
  refine ct_ofI (own := RX1) (by decide +kernel) rfl (Nat.le_of_ble_eq_true rfl) ?_
  intro p e s m args below meth c C
  unfold f_X1_gapOf at hf
  refine a_L (L' := [(0, .ref (ad c0)), (1, .int x1)]) rfl ?_
  refine a_aload_n (pc := 0) C dX1_gapOf_0 0 rfl ?_
  refine a_getR (pc := 1) C dX1_gapOf_1 fl_X1_15 hc0.1 rfl ?_
  refine a_iload_n (pc := 4) C dX1_gapOf_4 1 rfl ?_
  refine a_iald (pc := 5) C dX1_gapOf_5 hc0.2.1 hf (fun hf => ?_)
  refine a_nmi hf (fun v1 hf => ?_)
  by_cases hs2 : v1 = 1
  · rw [if_pos hs2] at hf
    refine a_tabIn (pc := 6) (off := 30) 36 C dX1_gapOf_6 (by rw [hs2]; decide) (by rw [hs2]; decide) (by rw [hs2]; rfl) (by decide) ?_
    refine a_aload_n (pc := 36) C dX1_gapOf_36 0 rfl ?_
    refine a_getR (pc := 37) C dX1_gapOf_37 fl_X1_19 hc0.1 rfl ?_
    refine a_iload_n (pc := 40) C dX1_gapOf_40 1 rfl ?_
    refine a_iald (pc := 41) C dX1_gapOf_41 hc0.2.2.1 hf (fun hf => ?_)
    refine a_iconst (pc := 42) (v := 1) C dX1_gapOf_42 (by decide) ?_
    refine a_iadd (pc := 43) C dX1_gapOf_43 ?_
    exact a_iret (pc := 44) C dX1_gapOf_44 (Option.some.inj hf) rfl
  · rw [if_neg hs2] at hf
    by_cases hs3 : v1 = 2
    · rw [if_pos hs3] at hf
      refine a_tabIn (pc := 6) (off := 39) 45 C dX1_gapOf_6 (by rw [hs3]; decide) (by rw [hs3]; decide) (by rw [hs3]; rfl) (by decide) ?_
      refine a_iconst (pc := 45) (v := 1) C dX1_gapOf_45 (by decide) ?_
      refine a_aload_n (pc := 46) C dX1_gapOf_46 0 rfl ?_
      refine a_getR (pc := 47) C dX1_gapOf_47 fl_X1_19 hc0.1 rfl ?_
      refine a_iload_n (pc := 50) C dX1_gapOf_50 1 rfl ?_
      refine a_iald (pc := 51) C dX1_gapOf_51 hc0.2.2.1 hf (fun hf => ?_)
      refine a_iconst (pc := 52) (v := 1) C dX1_gapOf_52 (by decide) ?_
      refine a_isub (pc := 53) C dX1_gapOf_53 ?_
      refine a_callS_Ir (pc := 54) (d' := 1) C dX1_gapOf_54 ml_X1_44 mc_J9_max_7cf53 ms_J9_max_7cf53 [.int (1 : Int32), .int ((M.1 (c0 + 2) x1.toNatClampNeg) - (1 : Int32))] rfl (Nat.le_of_ble_eq_true rfl) (Nat.le_of_ble_eq_true rfl) rfl (Nat.le_of_ble_eq_true rfl) (fun r h => c_J9_max_7cf53 N (1 : Int32) ((M.1 (c0 + 2) x1.toNatClampNeg) - (1 : Int32))  _  r h) hf (fun v4 hf => ?_)
      exact a_iret (pc := 57) C dX1_gapOf_57 (Option.some.inj hf) rfl
    · rw [if_neg hs3] at hf
      by_cases hs6 : v1 = 3
      · rw [if_pos hs6] at hf
        refine a_tabIn (pc := 6) (off := 52) 58 C dX1_gapOf_6 (by rw [hs6]; decide) (by rw [hs6]; decide) (by rw [hs6]; rfl) (by decide) ?_
        refine a_aload_n (pc := 58) C dX1_gapOf_58 0 rfl ?_
        refine a_getR (pc := 59) C dX1_gapOf_59 fl_X1_25 hc0.1 rfl ?_
        refine a_iload_n (pc := 62) C dX1_gapOf_62 1 rfl ?_
        refine a_iald (pc := 63) C dX1_gapOf_63 hc0.2.2.2.2.1 hf (fun hf => ?_)
        refine a_aload_n (pc := 64) C dX1_gapOf_64 0 rfl ?_
        refine a_getR (pc := 65) C dX1_gapOf_65 fl_X1_22 hc0.1 rfl ?_
        refine a_iload_n (pc := 68) C dX1_gapOf_68 1 rfl ?_
        refine a_iald (pc := 69) C dX1_gapOf_69 hc0.2.2.2.1 hf (fun hf => ?_)
        refine a_isub (pc := 70) C dX1_gapOf_70 ?_
        exact a_iret (pc := 71) C dX1_gapOf_71 (Option.some.inj hf) rfl
      · rw [if_neg hs6] at hf
        by_cases hs7 : v1 = 4
        · rw [if_pos hs7] at hf
          refine a_tabIn (pc := 6) (off := 66) 72 C dX1_gapOf_6 (by rw [hs7]; decide) (by rw [hs7]; decide) (by rw [hs7]; rfl) (by decide) ?_
          refine a_aload_n (pc := 72) C dX1_gapOf_72 0 rfl ?_
          refine a_getR (pc := 73) C dX1_gapOf_73 fl_X1_22 hc0.1 rfl ?_
          refine a_iload_n (pc := 76) C dX1_gapOf_76 1 rfl ?_
          refine a_iald (pc := 77) C dX1_gapOf_77 hc0.2.2.2.1 hf (fun hf => ?_)
          refine a_aload_n (pc := 78) C dX1_gapOf_78 0 rfl ?_
          refine a_getR (pc := 79) C dX1_gapOf_79 fl_X1_25 hc0.1 rfl ?_
          refine a_iload_n (pc := 82) C dX1_gapOf_82 1 rfl ?_
          refine a_iald (pc := 83) C dX1_gapOf_83 hc0.2.2.2.2.1 hf (fun hf => ?_)
          refine a_iadd (pc := 84) C dX1_gapOf_84 ?_
          refine a_iconst (pc := 85) (v := 2) C dX1_gapOf_85 (by decide) ?_
          refine a_irem (pc := 86) C dX1_gapOf_86 hf (fun hf => ?_)
          refine a_if_ne (pc := 87) 94 C dX1_gapOf_87 (by decide) hf (fun hf => ?_) (fun hf => ?_)
          · refine a_aload_n (pc := 94) C dX1_gapOf_94 0 rfl ?_
            refine a_getR (pc := 95) C dX1_gapOf_95 fl_X1_19 hc0.1 rfl ?_
            refine a_iload_n (pc := 98) C dX1_gapOf_98 1 rfl ?_
            refine a_iald (pc := 99) C dX1_gapOf_99 hc0.2.2.1 hf (fun hf => ?_)
            exact a_iret (pc := 100) C dX1_gapOf_100 (Option.some.inj hf) rfl
          · refine a_iconst (pc := 90) (v := 2) C dX1_gapOf_90 (by decide) ?_
            refine a_goto (pc := 91) 100 C dX1_gapOf_91 (by decide) ?_
            exact a_iret (pc := 100) C dX1_gapOf_100 (Option.some.inj hf) rfl
        · rw [if_neg hs7] at hf
          refine a_tabOut (pc := 6) 101 C dX1_gapOf_6 (by have nhs2 := ne_toInt hs2 (k := 1) (by decide); have nhs3 := ne_toInt hs3 (k := 2) (by decide); have nhs6 := ne_toInt hs6 (k := 3) (by decide); have nhs7 := ne_toInt hs7 (k := 4) (by decide); omega) (by decide) ?_
          refine a_aload_n (pc := 101) C dX1_gapOf_101 0 rfl ?_
          refine a_getR (pc := 102) C dX1_gapOf_102 fl_X1_19 hc0.1 rfl ?_
          refine a_iload_n (pc := 105) C dX1_gapOf_105 1 rfl ?_
          refine a_iald (pc := 106) C dX1_gapOf_106 hc0.2.2.1 hf (fun hf => ?_)
          exact a_iret (pc := 107) C dX1_gapOf_107 (Option.some.inj hf) rfl
theorem dX1_addLine_0 : decode cX1_addLine 0 = .ok (.aload_n 0, 1) := by decide +kernel
theorem dX1_addLine_1 : decode cX1_addLine 1 = .ok (.getfield 35, 3) := by decide +kernel
theorem dX1_addLine_4 : decode cX1_addLine 4 = .ok (.bipush 10, 2) := by decide +kernel
theorem dX1_addLine_6 : decode cX1_addLine 6 = .ok (.if_icmp .ge 63, 3) := by decide +kernel
theorem dX1_addLine_9 : decode cX1_addLine 9 = .ok (.aload_n 0, 1) := by decide +kernel
theorem dX1_addLine_10 : decode cX1_addLine 10 = .ok (.getfield 15, 3) := by decide +kernel
theorem dX1_addLine_13 : decode cX1_addLine 13 = .ok (.aload_n 0, 1) := by decide +kernel
theorem dX1_addLine_14 : decode cX1_addLine 14 = .ok (.getfield 35, 3) := by decide +kernel
theorem dX1_addLine_17 : decode cX1_addLine 17 = .ok (.iload_n 1, 1) := by decide +kernel
theorem dX1_addLine_18 : decode cX1_addLine 18 = .ok (.iastore, 1) := by decide +kernel
theorem dX1_addLine_19 : decode cX1_addLine 19 = .ok (.aload_n 0, 1) := by decide +kernel
theorem dX1_addLine_20 : decode cX1_addLine 20 = .ok (.getfield 19, 3) := by decide +kernel
theorem dX1_addLine_23 : decode cX1_addLine 23 = .ok (.aload_n 0, 1) := by decide +kernel
theorem dX1_addLine_24 : decode cX1_addLine 24 = .ok (.getfield 35, 3) := by decide +kernel
theorem dX1_addLine_27 : decode cX1_addLine 27 = .ok (.iload_n 2, 1) := by decide +kernel
theorem dX1_addLine_28 : decode cX1_addLine 28 = .ok (.iastore, 1) := by decide +kernel
theorem dX1_addLine_29 : decode cX1_addLine 29 = .ok (.aload_n 0, 1) := by decide +kernel
theorem dX1_addLine_30 : decode cX1_addLine 30 = .ok (.getfield 22, 3) := by decide +kernel
theorem dX1_addLine_33 : decode cX1_addLine 33 = .ok (.aload_n 0, 1) := by decide +kernel
theorem dX1_addLine_34 : decode cX1_addLine 34 = .ok (.getfield 35, 3) := by decide +kernel
theorem dX1_addLine_37 : decode cX1_addLine 37 = .ok (.iload_n 3, 1) := by decide +kernel
theorem dX1_addLine_38 : decode cX1_addLine 38 = .ok (.iload 4, 2) := by decide +kernel
theorem dX1_addLine_40 : decode cX1_addLine 40 = .ok (.invokestatic 38, 3) := by decide +kernel
theorem dX1_addLine_43 : decode cX1_addLine 43 = .ok (.iastore, 1) := by decide +kernel
theorem dX1_addLine_44 : decode cX1_addLine 44 = .ok (.aload_n 0, 1) := by decide +kernel
theorem dX1_addLine_45 : decode cX1_addLine 45 = .ok (.getfield 25, 3) := by decide +kernel
theorem dX1_addLine_48 : decode cX1_addLine 48 = .ok (.aload_n 0, 1) := by decide +kernel
theorem dX1_addLine_49 : decode cX1_addLine 49 = .ok (.getfield 35, 3) := by decide +kernel
theorem dX1_addLine_52 : decode cX1_addLine 52 = .ok (.iload_n 3, 1) := by decide +kernel
theorem dX1_addLine_53 : decode cX1_addLine 53 = .ok (.iload 4, 2) := by decide +kernel
theorem dX1_addLine_55 : decode cX1_addLine 55 = .ok (.invokestatic 44, 3) := by decide +kernel
theorem dX1_addLine_58 : decode cX1_addLine 58 = .ok (.iastore, 1) := by decide +kernel
theorem dX1_addLine_59 : decode cX1_addLine 59 = .ok (.aload_n 0, 1) := by decide +kernel
theorem dX1_addLine_60 : decode cX1_addLine 60 = .ok (.dup, 1) := by decide +kernel
theorem dX1_addLine_61 : decode cX1_addLine 61 = .ok (.getfield 35, 3) := by decide +kernel
theorem dX1_addLine_64 : decode cX1_addLine 64 = .ok (.iconst 1, 1) := by decide +kernel
theorem dX1_addLine_65 : decode cX1_addLine 65 = .ok (.iadd, 1) := by decide +kernel
theorem dX1_addLine_66 : decode cX1_addLine 66 = .ok (.putfield 35, 3) := by decide +kernel
theorem dX1_addLine_69 : decode cX1_addLine 69 = .ok (.return_, 1) := by decide +kernel
def f_X1_addLine (N : Nat) (c0 : Nat) (x1 : Int32) (x2 : Int32) (x3 : Int32) (x4 : Int32) (M : Mem) : Option (Mem) := if (10 : Int32) ≤ (M.1 c0 1) then (some M) else (ck (inb (M.1 c0 1) 10) (nm (setI M (c0 + 1) (M.1 c0 1).toNatClampNeg x1) (fun M1 => ck (inb (M1.1 c0 1) 10) (nm (setI M1 (c0 + 2) (M1.1 c0 1).toNatClampNeg x2) (fun M2 => bd (f_J9_min_7cf53 N x3 x4 M2) (fun v3 => ck (inb (M2.1 c0 1) 10) (nm (setI M2 (c0 + 3) (M2.1 c0 1).toNatClampNeg v3) (fun M5 => bd (f_J9_max_7cf53 N x3 x4 M5) (fun v6 => ck (inb (M5.1 c0 1) 10) (nm (setI M5 (c0 + 4) (M5.1 c0 1).toNatClampNeg v6) (fun M8 => nm (setI M8 c0 1 ((M8.1 c0 1) + (1 : Int32))) (fun M9 => some M9))))))))))))
set_option maxRecDepth 100000 in
set_option maxHeartbeats 4000000 in
theorem c_X1_addLine {l : Launch} {D : va_G} {ac : Nat → ClassId} {A : Nat → Prop} {ad : Nat → Nat} {rest : va_W} (N : Nat) (c0 : Nat) (x1 : Int32) (x2 : Int32) (x3 : Int32) (x4 : Int32) (hc0 : NetAt tabX c0) (M : Mem)  (M0 : Mem) (hf : f_X1_addLine N c0 x1 x2 x3 x4 M = some M0) : CtV l D ac A tabX ad rest yX1_addLine cX1_addLine 5  2 [.ref (ad c0), .int x1, .int x2, .int x3, .int x4] M  M0 := by
  refine ct_ofV (own := RX1) (by decide +kernel) rfl (Nat.le_of_ble_eq_true rfl) ?_
  intro p e s m args below meth c C
  unfold f_X1_addLine at hf
  refine a_L (L' := [(0, .ref (ad c0)), (1, .int x1), (2, .int x2), (3, .int x3), (4, .int x4)]) rfl ?_
  refine a_aload_n (pc := 0) C dX1_addLine_0 0 rfl ?_
  refine a_getI (pc := 1) C dX1_addLine_1 fl_X1_35 hc0.1 rfl ?_
  refine a_bipush (pc := 4) (v := 10) C dX1_addLine_4 (by decide) ?_
  refine a_icmp_ge (pc := 6) 69 C dX1_addLine_6 (by decide) hf (fun hf => ?_) (fun hf => ?_)
  · exact a_vret (pc := 69) C dX1_addLine_69 (Option.some.inj hf)
  · refine a_aload_n (pc := 9) C dX1_addLine_9 0 rfl ?_
    refine a_getR (pc := 10) C dX1_addLine_10 fl_X1_15 hc0.1 rfl ?_
    refine a_aload_n (pc := 13) C dX1_addLine_13 0 rfl ?_
    refine a_getI (pc := 14) C dX1_addLine_14 fl_X1_35 hc0.1 rfl ?_
    refine a_iload_n (pc := 17) C dX1_addLine_17 1 rfl ?_
    refine a_iast (pc := 18) C dX1_addLine_18 hc0.2.1 hf (fun M1 hf => ?_)
    refine a_aload_n (pc := 19) C dX1_addLine_19 0 rfl ?_
    refine a_getR (pc := 20) C dX1_addLine_20 fl_X1_19 hc0.1 rfl ?_
    refine a_aload_n (pc := 23) C dX1_addLine_23 0 rfl ?_
    refine a_getI (pc := 24) C dX1_addLine_24 fl_X1_35 hc0.1 rfl ?_
    refine a_iload_n (pc := 27) C dX1_addLine_27 2 rfl ?_
    refine a_iast (pc := 28) C dX1_addLine_28 hc0.2.2.1 hf (fun M2 hf => ?_)
    refine a_aload_n (pc := 29) C dX1_addLine_29 0 rfl ?_
    refine a_getR (pc := 30) C dX1_addLine_30 fl_X1_22 hc0.1 rfl ?_
    refine a_aload_n (pc := 33) C dX1_addLine_33 0 rfl ?_
    refine a_getI (pc := 34) C dX1_addLine_34 fl_X1_35 hc0.1 rfl ?_
    refine a_iload_n (pc := 37) C dX1_addLine_37 3 rfl ?_
    refine a_iload (pc := 38) C dX1_addLine_38 4 rfl ?_
    refine a_callS_Ir (pc := 40) (d' := 1) C dX1_addLine_40 ml_X1_38 mc_J9_min_7cf53 ms_J9_min_7cf53 [.int x3, .int x4] rfl (Nat.le_of_ble_eq_true rfl) (Nat.le_of_ble_eq_true rfl) rfl (Nat.le_of_ble_eq_true rfl) (fun r h => c_J9_min_7cf53 N x3 x4  _  r h) hf (fun v3 hf => ?_)
    refine a_iast (pc := 43) C dX1_addLine_43 hc0.2.2.2.1 hf (fun M5 hf => ?_)
    refine a_aload_n (pc := 44) C dX1_addLine_44 0 rfl ?_
    refine a_getR (pc := 45) C dX1_addLine_45 fl_X1_25 hc0.1 rfl ?_
    refine a_aload_n (pc := 48) C dX1_addLine_48 0 rfl ?_
    refine a_getI (pc := 49) C dX1_addLine_49 fl_X1_35 hc0.1 rfl ?_
    refine a_iload_n (pc := 52) C dX1_addLine_52 3 rfl ?_
    refine a_iload (pc := 53) C dX1_addLine_53 4 rfl ?_
    refine a_callS_Ir (pc := 55) (d' := 1) C dX1_addLine_55 ml_X1_44 mc_J9_max_7cf53 ms_J9_max_7cf53 [.int x3, .int x4] rfl (Nat.le_of_ble_eq_true rfl) (Nat.le_of_ble_eq_true rfl) rfl (Nat.le_of_ble_eq_true rfl) (fun r h => c_J9_max_7cf53 N x3 x4  _  r h) hf (fun v6 hf => ?_)
    refine a_iast (pc := 58) C dX1_addLine_58 hc0.2.2.2.2.1 hf (fun M8 hf => ?_)
    refine a_aload_n (pc := 59) C dX1_addLine_59 0 rfl ?_
    refine a_dup (pc := 60) C dX1_addLine_60 rfl ?_
    refine a_getI (pc := 61) C dX1_addLine_61 fl_X1_35 hc0.1 rfl ?_
    refine a_iconst (pc := 64) (v := 1) C dX1_addLine_64 (by decide) ?_
    refine a_iadd (pc := 65) C dX1_addLine_65 ?_
    refine a_putI (pc := 66) C dX1_addLine_66 fl_X1_35 hc0.1 rfl hf (fun M9 hf => ?_)
    exact a_vret (pc := 69) C dX1_addLine_69 (Option.some.inj hf)
theorem dX2_lifts_0 : decode cX2_lifts 0 = .ok (.iload_n 2, 1) := by decide +kernel
theorem dX2_lifts_1 : decode cX2_lifts 1 = .ok (.aload_n 0, 1) := by decide +kernel
theorem dX2_lifts_2 : decode cX2_lifts 2 = .ok (.getfield 25, 3) := by decide +kernel
theorem dX2_lifts_5 : decode cX2_lifts 5 = .ok (.if_icmp .lt 5, 3) := by decide +kernel
theorem dX2_lifts_8 : decode cX2_lifts 8 = .ok (.iconst 0, 1) := by decide +kernel
theorem dX2_lifts_9 : decode cX2_lifts 9 = .ok (.ireturn, 1) := by decide +kernel
theorem dX2_lifts_10 : decode cX2_lifts 10 = .ok (.aload_n 0, 1) := by decide +kernel
theorem dX2_lifts_11 : decode cX2_lifts 11 = .ok (.getfield 21, 3) := by decide +kernel
theorem dX2_lifts_14 : decode cX2_lifts 14 = .ok (.iload_n 1, 1) := by decide +kernel
theorem dX2_lifts_15 : decode cX2_lifts 15 = .ok (.laload, 1) := by decide +kernel
theorem dX2_lifts_16 : decode cX2_lifts 16 = .ok (.ldc2_w 80, 3) := by decide +kernel
theorem dX2_lifts_19 : decode cX2_lifts 19 = .ok (.iload_n 2, 1) := by decide +kernel
theorem dX2_lifts_20 : decode cX2_lifts 20 = .ok (.lshl, 1) := by decide +kernel
theorem dX2_lifts_21 : decode cX2_lifts 21 = .ok (.land, 1) := by decide +kernel
theorem dX2_lifts_22 : decode cX2_lifts 22 = .ok (.lstore_n 3, 1) := by decide +kernel
theorem dX2_lifts_23 : decode cX2_lifts 23 = .ok (.aload_n 0, 1) := by decide +kernel
theorem dX2_lifts_24 : decode cX2_lifts 24 = .ok (.getfield 15, 3) := by decide +kernel
theorem dX2_lifts_27 : decode cX2_lifts 27 = .ok (.iload_n 1, 1) := by decide +kernel
theorem dX2_lifts_28 : decode cX2_lifts 28 = .ok (.lload_n 3, 1) := by decide +kernel
theorem dX2_lifts_29 : decode cX2_lifts 29 = .ok (.lconst 0, 1) := by decide +kernel
theorem dX2_lifts_30 : decode cX2_lifts 30 = .ok (.lcmp, 1) := by decide +kernel
theorem dX2_lifts_31 : decode cX2_lifts 31 = .ok (.ifCond .ne 10, 3) := by decide +kernel
theorem dX2_lifts_34 : decode cX2_lifts 34 = .ok (.aload_n 0, 1) := by decide +kernel
theorem dX2_lifts_35 : decode cX2_lifts 35 = .ok (.getfield 25, 3) := by decide +kernel
theorem dX2_lifts_38 : decode cX2_lifts 38 = .ok (.goto 12, 3) := by decide +kernel
theorem dX2_lifts_41 : decode cX2_lifts 41 = .ok (.lload_n 3, 1) := by decide +kernel
theorem dX2_lifts_42 : decode cX2_lifts 42 = .ok (.lload_n 3, 1) := by decide +kernel
theorem dX2_lifts_43 : decode cX2_lifts 43 = .ok (.lneg, 1) := by decide +kernel
theorem dX2_lifts_44 : decode cX2_lifts 44 = .ok (.land, 1) := by decide +kernel
theorem dX2_lifts_45 : decode cX2_lifts 45 = .ok (.lconst 1, 1) := by decide +kernel
theorem dX2_lifts_46 : decode cX2_lifts 46 = .ok (.lsub, 1) := by decide +kernel
theorem dX2_lifts_47 : decode cX2_lifts 47 = .ok (.invokestatic 82, 3) := by decide +kernel
theorem dX2_lifts_50 : decode cX2_lifts 50 = .ok (.iastore, 1) := by decide +kernel
theorem dX2_lifts_51 : decode cX2_lifts 51 = .ok (.lload_n 3, 1) := by decide +kernel
theorem dX2_lifts_52 : decode cX2_lifts 52 = .ok (.lconst 0, 1) := by decide +kernel
theorem dX2_lifts_53 : decode cX2_lifts 53 = .ok (.lcmp, 1) := by decide +kernel
theorem dX2_lifts_54 : decode cX2_lifts 54 = .ok (.ifCond .eq 7, 3) := by decide +kernel
theorem dX2_lifts_57 : decode cX2_lifts 57 = .ok (.iconst 1, 1) := by decide +kernel
theorem dX2_lifts_58 : decode cX2_lifts 58 = .ok (.goto 4, 3) := by decide +kernel
theorem dX2_lifts_61 : decode cX2_lifts 61 = .ok (.iconst 0, 1) := by decide +kernel
theorem dX2_lifts_62 : decode cX2_lifts 62 = .ok (.ireturn, 1) := by decide +kernel
def f_X2_lifts (N : Nat) (x1 : Int32) (x2 : Int32) (M : Mem) : Option (Int32 × Mem) := if x2 < (M.1 26 1) then (ck (inb x1 6) (nm ((M.2 30 x1.toNatClampNeg) &&& ((-1 : Int64) <<< (x2.toInt64 &&& 63))) (fun v1 => jn (fun (a50 : Int32) => ck (inb x1 6) (nm (setI M 28 x1.toNatClampNeg a50) (fun M2 => if (lg_cmp v1 (0 : Int64)) = 0 then (some ((0 : Int32), M2)) else (some ((1 : Int32), M2))))) (fun (k50 : Int32 → Option (Int32 × Mem)) => if (lg_cmp v1 (0 : Int64)) = 0 then (k50 (M.1 26 1)) else (bd (f_J13_bitCount_95d88 N ((v1 &&& (-v1)) - (1 : Int64)) M) (fun v3 => k50 v3)))))) else (some ((0 : Int32), M))
set_option maxRecDepth 100000 in
set_option maxHeartbeats 4000000 in
theorem c_X2_lifts {l : Launch} {D : va_G} {ac : Nat → ClassId} {A : Nat → Prop} {ad : Nat → Nat} {rest : va_W} (N : Nat) (x1 : Int32) (x2 : Int32)  (M : Mem) (r0 : Int32) (M0 : Mem) (hf : f_X2_lifts N x1 x2 M = some (r0, M0)) : CtI l D ac A tabX ad rest yX2_lifts cX2_lifts 5 .boolean 2 [.ref (ad 26), .int x1, .int x2] M r0 M0 := by
  refine ct_ofI (own := RX2) (by decide +kernel) rfl (Nat.le_of_ble_eq_true rfl) ?_
  intro p e s m args below meth c C
  unfold f_X2_lifts at hf
  refine a_L (L' := [(0, .ref (ad 26)), (1, .int x1), (2, .int x2)]) rfl ?_
  refine a_iload_n (pc := 0) C dX2_lifts_0 2 rfl ?_
  refine a_aload_n (pc := 1) C dX2_lifts_1 0 rfl ?_
  refine a_getI (pc := 2) C dX2_lifts_2 fl_X2_25 tx_26 rfl ?_
  refine a_icmp_lt (pc := 5) 10 C dX2_lifts_5 (by decide) hf (fun hf => ?_) (fun hf => ?_)
  · refine a_aload_n (pc := 10) C dX2_lifts_10 0 rfl ?_
    refine a_getR (pc := 11) C dX2_lifts_11 fl_X2_21 tx_26 rfl ?_
    refine a_iload_n (pc := 14) C dX2_lifts_14 1 rfl ?_
    refine a_lald (pc := 15) C dX2_lifts_15 tx_30 hf (fun hf => ?_)
    refine a_ldc2 (pc := 16) C dX2_lifts_16 cj_X2_80 ?_
    refine a_iload_n (pc := 19) C dX2_lifts_19 2 rfl ?_
    refine a_lshl (pc := 20) C dX2_lifts_20 ?_
    refine a_land (pc := 21) C dX2_lifts_21 ?_
    refine a_nml hf (fun v1 hf => ?_)
    refine a_lstore_n (pc := 22) [(3, .long v1), (0, .ref (ad 26)), (1, .int x1), (2, .int x2)] C dX2_lifts_22 (by decide) rfl ?_
    refine a_aload_n (pc := 23) C dX2_lifts_23 1 rfl ?_
    refine a_getR (pc := 24) C dX2_lifts_24 fl_X2_15 tx_26 rfl ?_
    refine a_iload_n (pc := 27) C dX2_lifts_27 2 rfl ?_
    refine a_lload_n (pc := 28) C dX2_lifts_28 0 rfl ?_
    refine a_lconst (pc := 29) (v := 0) C dX2_lifts_29 (by decide) ?_
    refine a_lcmp (pc := 30) C dX2_lifts_30 ?_
    refine a_jn 50 (fun a50 : Int32 => [(3, .long v1)]) (fun a50 : Int32 => [.int a50, .int x1, .ref (ad 28)]) (fun a50 : Int32 => M) hf (fun a50 hf => ?_) (fun k50 hk50 hf => ?_)
    · refine a_iast (pc := 50) C dX2_lifts_50 tx_28 hf (fun M2 hf => ?_)
      refine a_lload_n (pc := 51) C dX2_lifts_51 0 rfl ?_
      refine a_lconst (pc := 52) (v := 0) C dX2_lifts_52 (by decide) ?_
      refine a_lcmp (pc := 53) C dX2_lifts_53 ?_
      refine a_if_eq (pc := 54) 61 C dX2_lifts_54 (by decide) hf (fun hf => ?_) (fun hf => ?_)
      · refine a_iconst (pc := 61) (v := 0) C dX2_lifts_61 (by decide) ?_
        exact a_zret (pc := 62) C dX2_lifts_62 (Or.inl rfl) (so_1 hf) (so_2 hf)
      · refine a_iconst (pc := 57) (v := 1) C dX2_lifts_57 (by decide) ?_
        refine a_goto (pc := 58) 62 C dX2_lifts_58 (by decide) ?_
        exact a_zret (pc := 62) C dX2_lifts_62 (Or.inr rfl) (so_1 hf) (so_2 hf)
    · refine a_if_ne (pc := 31) 41 C dX2_lifts_31 (by decide) hf (fun hf => ?_) (fun hf => ?_)
      · refine a_lload_n (pc := 41) C dX2_lifts_41 0 rfl ?_
        refine a_lload_n (pc := 42) C dX2_lifts_42 0 rfl ?_
        refine a_lneg (pc := 43) C dX2_lifts_43 ?_
        refine a_land (pc := 44) C dX2_lifts_44 ?_
        refine a_lconst (pc := 45) (v := 1) C dX2_lifts_45 (by decide) ?_
        refine a_lsub (pc := 46) C dX2_lifts_46 ?_
        refine a_callS_Ir (pc := 47) (d' := 1) C dX2_lifts_47 ml_X2_82 mc_J13_bitCount_95d88 ms_J13_bitCount_95d88 [.long ((v1 &&& (-v1)) - (1 : Int64))] rfl (Nat.le_of_ble_eq_true rfl) (Nat.le_of_ble_eq_true rfl) rfl (Nat.le_of_ble_eq_true rfl) (fun r h => c_J13_bitCount_95d88 N ((v1 &&& (-v1)) - (1 : Int64))  _  r h) hf (fun v3 hf => ?_)
        exact a_sub [0] rfl (hk50 v3 hf)
      · refine a_aload_n (pc := 34) C dX2_lifts_34 1 rfl ?_
        refine a_getI (pc := 35) C dX2_lifts_35 fl_X2_25 tx_26 rfl ?_
        refine a_goto (pc := 38) 50 C dX2_lifts_38 (by decide) ?_
        exact a_sub [0] rfl (hk50 (M.1 26 1) hf)
  · refine a_iconst (pc := 8) (v := 0) C dX2_lifts_8 (by decide) ?_
    exact a_zret (pc := 9) C dX2_lifts_9 (Or.inl rfl) (so_1 hf) (so_2 hf)
