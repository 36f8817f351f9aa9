theorem dX8_hold_0 : decode cX8_hold 0 = .ok (.iload_n 1, 1) := by decide +kernel
theorem dX8_hold_1 : decode cX8_hold 1 = .ok (.invokestatic 271, 3) := by decide +kernel
theorem dX8_hold_4 : decode cX8_hold 4 = .ok (.ifCond .eq 39, 3) := by decide +kernel
theorem dX8_hold_7 : decode cX8_hold 7 = .ok (.iload_n 2, 1) := by decide +kernel
theorem dX8_hold_8 : decode cX8_hold 8 = .ok (.i2l, 1) := by decide +kernel
theorem dX8_hold_9 : decode cX8_hold 9 = .ok (.lconst 0, 1) := by decide +kernel
theorem dX8_hold_10 : decode cX8_hold 10 = .ok (.ldc2_w 237, 3) := by decide +kernel
theorem dX8_hold_13 : decode cX8_hold 13 = .ok (.invokestatic 98, 3) := by decide +kernel
theorem dX8_hold_16 : decode cX8_hold 16 = .ok (.ifCond .eq 27, 3) := by decide +kernel
theorem dX8_hold_19 : decode cX8_hold 19 = .ok (.iload_n 2, 1) := by decide +kernel
theorem dX8_hold_20 : decode cX8_hold 20 = .ok (.ifCond .ne 11, 3) := by decide +kernel
theorem dX8_hold_23 : decode cX8_hold 23 = .ok (.aload_n 0, 1) := by decide +kernel
theorem dX8_hold_24 : decode cX8_hold 24 = .ok (.iload_n 3, 1) := by decide +kernel
theorem dX8_hold_25 : decode cX8_hold 25 = .ok (.invokevirtual 134, 3) := by decide +kernel
theorem dX8_hold_28 : decode cX8_hold 28 = .ok (.ifCond .eq 15, 3) := by decide +kernel
theorem dX8_hold_31 : decode cX8_hold 31 = .ok (.iload_n 2, 1) := by decide +kernel
theorem dX8_hold_32 : decode cX8_hold 32 = .ok (.iconst 1, 1) := by decide +kernel
theorem dX8_hold_33 : decode cX8_hold 33 = .ok (.if_icmp .ne 13, 3) := by decide +kernel
theorem dX8_hold_36 : decode cX8_hold 36 = .ok (.iload_n 3, 1) := by decide +kernel
theorem dX8_hold_37 : decode cX8_hold 37 = .ok (.invokestatic 245, 3) := by decide +kernel
theorem dX8_hold_40 : decode cX8_hold 40 = .ok (.ifCond .ne 6, 3) := by decide +kernel
theorem dX8_hold_43 : decode cX8_hold 43 = .ok (.bipush (-2), 2) := by decide +kernel
theorem dX8_hold_45 : decode cX8_hold 45 = .ok (.ireturn, 1) := by decide +kernel
theorem dX8_hold_46 : decode cX8_hold 46 = .ok (.iload_n 2, 1) := by decide +kernel
theorem dX8_hold_47 : decode cX8_hold 47 = .ok (.iconst 1, 1) := by decide +kernel
theorem dX8_hold_48 : decode cX8_hold 48 = .ok (.if_icmp .ne 16, 3) := by decide +kernel
theorem dX8_hold_51 : decode cX8_hold 51 = .ok (.aload_n 0, 1) := by decide +kernel
theorem dX8_hold_52 : decode cX8_hold 52 = .ok (.getfield 77, 3) := by decide +kernel
theorem dX8_hold_55 : decode cX8_hold 55 = .ok (.iload_n 3, 1) := by decide +kernel
theorem dX8_hold_56 : decode cX8_hold 56 = .ok (.iaload, 1) := by decide +kernel
theorem dX8_hold_57 : decode cX8_hold 57 = .ok (.iconst (-1), 1) := by decide +kernel
theorem dX8_hold_58 : decode cX8_hold 58 = .ok (.if_icmp .ne 6, 3) := by decide +kernel
theorem dX8_hold_61 : decode cX8_hold 61 = .ok (.bipush (-11), 2) := by decide +kernel
theorem dX8_hold_63 : decode cX8_hold 63 = .ok (.ireturn, 1) := by decide +kernel
theorem dX8_hold_64 : decode cX8_hold 64 = .ok (.aload_n 0, 1) := by decide +kernel
theorem dX8_hold_65 : decode cX8_hold 65 = .ok (.getfield 50, 3) := by decide +kernel
theorem dX8_hold_68 : decode cX8_hold 68 = .ok (.iload_n 1, 1) := by decide +kernel
theorem dX8_hold_69 : decode cX8_hold 69 = .ok (.iload_n 2, 1) := by decide +kernel
theorem dX8_hold_70 : decode cX8_hold 70 = .ok (.iconst 2, 1) := by decide +kernel
theorem dX8_hold_71 : decode cX8_hold 71 = .ok (.if_icmp .ne 7, 3) := by decide +kernel
theorem dX8_hold_74 : decode cX8_hold 74 = .ok (.iconst 0, 1) := by decide +kernel
theorem dX8_hold_75 : decode cX8_hold 75 = .ok (.goto 6, 3) := by decide +kernel
theorem dX8_hold_78 : decode cX8_hold 78 = .ok (.iconst 2, 1) := by decide +kernel
theorem dX8_hold_79 : decode cX8_hold 79 = .ok (.iload_n 2, 1) := by decide +kernel
theorem dX8_hold_80 : decode cX8_hold 80 = .ok (.iadd, 1) := by decide +kernel
theorem dX8_hold_81 : decode cX8_hold 81 = .ok (.iastore, 1) := by decide +kernel
theorem dX8_hold_82 : decode cX8_hold 82 = .ok (.iload_n 2, 1) := by decide +kernel
theorem dX8_hold_83 : decode cX8_hold 83 = .ok (.ifCond .ne 26, 3) := by decide +kernel
theorem dX8_hold_86 : decode cX8_hold 86 = .ok (.aload_n 0, 1) := by decide +kernel
theorem dX8_hold_87 : decode cX8_hold 87 = .ok (.getfield 53, 3) := by decide +kernel
theorem dX8_hold_90 : decode cX8_hold 90 = .ok (.iload_n 1, 1) := by decide +kernel
theorem dX8_hold_91 : decode cX8_hold 91 = .ok (.aload_n 0, 1) := by decide +kernel
theorem dX8_hold_92 : decode cX8_hold 92 = .ok (.getfield 13, 3) := by decide +kernel
theorem dX8_hold_95 : decode cX8_hold 95 = .ok (.iload_n 3, 1) := by decide +kernel
theorem dX8_hold_96 : decode cX8_hold 96 = .ok (.iaload, 1) := by decide +kernel
theorem dX8_hold_97 : decode cX8_hold 97 = .ok (.iastore, 1) := by decide +kernel
theorem dX8_hold_98 : decode cX8_hold 98 = .ok (.aload_n 0, 1) := by decide +kernel
theorem dX8_hold_99 : decode cX8_hold 99 = .ok (.getfield 56, 3) := by decide +kernel
theorem dX8_hold_102 : decode cX8_hold 102 = .ok (.iload_n 1, 1) := by decide +kernel
theorem dX8_hold_103 : decode cX8_hold 103 = .ok (.aload_n 0, 1) := by decide +kernel
theorem dX8_hold_104 : decode cX8_hold 104 = .ok (.iload_n 3, 1) := by decide +kernel
theorem dX8_hold_105 : decode cX8_hold 105 = .ok (.invokevirtual 137, 3) := by decide +kernel
theorem dX8_hold_108 : decode cX8_hold 108 = .ok (.iastore, 1) := by decide +kernel
theorem dX8_hold_109 : decode cX8_hold 109 = .ok (.iload_n 2, 1) := by decide +kernel
theorem dX8_hold_110 : decode cX8_hold 110 = .ok (.iconst 1, 1) := by decide +kernel
theorem dX8_hold_111 : decode cX8_hold 111 = .ok (.if_icmp .ne 63, 3) := by decide +kernel
theorem dX8_hold_114 : decode cX8_hold 114 = .ok (.aload_n 0, 1) := by decide +kernel
theorem dX8_hold_115 : decode cX8_hold 115 = .ok (.getfield 59, 3) := by decide +kernel
theorem dX8_hold_118 : decode cX8_hold 118 = .ok (.iload_n 1, 1) := by decide +kernel
theorem dX8_hold_119 : decode cX8_hold 119 = .ok (.aload_n 0, 1) := by decide +kernel
theorem dX8_hold_120 : decode cX8_hold 120 = .ok (.getfield 80, 3) := by decide +kernel
theorem dX8_hold_123 : decode cX8_hold 123 = .ok (.iload_n 3, 1) := by decide +kernel
theorem dX8_hold_124 : decode cX8_hold 124 = .ok (.iaload, 1) := by decide +kernel
theorem dX8_hold_125 : decode cX8_hold 125 = .ok (.iastore, 1) := by decide +kernel
theorem dX8_hold_126 : decode cX8_hold 126 = .ok (.aload_n 0, 1) := by decide +kernel
theorem dX8_hold_127 : decode cX8_hold 127 = .ok (.getfield 68, 3) := by decide +kernel
theorem dX8_hold_130 : decode cX8_hold 130 = .ok (.iload_n 1, 1) := by decide +kernel
theorem dX8_hold_131 : decode cX8_hold 131 = .ok (.lconst 0, 1) := by decide +kernel
theorem dX8_hold_132 : decode cX8_hold 132 = .ok (.lastore, 1) := by decide +kernel
theorem dX8_hold_133 : decode cX8_hold 133 = .ok (.iconst 0, 1) := by decide +kernel
theorem dX8_hold_134 : decode cX8_hold 134 = .ok (.istore 4, 2) := by decide +kernel
theorem dX8_hold_136 : decode cX8_hold 136 = .ok (.iload 4, 2) := by decide +kernel
theorem dX8_hold_138 : decode cX8_hold 138 = .ok (.aload_n 0, 1) := by decide +kernel
theorem dX8_hold_139 : decode cX8_hold 139 = .ok (.getfield 80, 3) := by decide +kernel
theorem dX8_hold_142 : decode cX8_hold 142 = .ok (.iload_n 3, 1) := by decide +kernel
theorem dX8_hold_143 : decode cX8_hold 143 = .ok (.iaload, 1) := by decide +kernel
theorem dX8_hold_144 : decode cX8_hold 144 = .ok (.if_icmp .ge 30, 3) := by decide +kernel
theorem dX8_hold_147 : decode cX8_hold 147 = .ok (.aload_n 0, 1) := by decide +kernel
theorem dX8_hold_148 : decode cX8_hold 148 = .ok (.getfield 68, 3) := by decide +kernel
theorem dX8_hold_151 : decode cX8_hold 151 = .ok (.iload_n 1, 1) := by decide +kernel
theorem dX8_hold_152 : decode cX8_hold 152 = .ok (.dup2, 1) := by decide +kernel
theorem dX8_hold_153 : decode cX8_hold 153 = .ok (.laload, 1) := by decide +kernel
theorem dX8_hold_154 : decode cX8_hold 154 = .ok (.aload_n 0, 1) := by decide +kernel
theorem dX8_hold_155 : decode cX8_hold 155 = .ok (.getfield 83, 3) := by decide +kernel
theorem dX8_hold_158 : decode cX8_hold 158 = .ok (.bipush 40, 2) := by decide +kernel
theorem dX8_hold_160 : decode cX8_hold 160 = .ok (.iload_n 3, 1) := by decide +kernel
theorem dX8_hold_161 : decode cX8_hold 161 = .ok (.imul, 1) := by decide +kernel
theorem dX8_hold_162 : decode cX8_hold 162 = .ok (.iload 4, 2) := by decide +kernel
theorem dX8_hold_164 : decode cX8_hold 164 = .ok (.iadd, 1) := by decide +kernel
theorem dX8_hold_165 : decode cX8_hold 165 = .ok (.laload, 1) := by decide +kernel
theorem dX8_hold_166 : decode cX8_hold 166 = .ok (.ladd, 1) := by decide +kernel
theorem dX8_hold_167 : decode cX8_hold 167 = .ok (.lastore, 1) := by decide +kernel
theorem dX8_hold_168 : decode cX8_hold 168 = .ok (.iinc 4 1, 3) := by decide +kernel
theorem dX8_hold_171 : decode cX8_hold 171 = .ok (.goto (-35), 3) := by decide +kernel
theorem dX8_hold_174 : decode cX8_hold 174 = .ok (.iconst 1, 1) := by decide +kernel
theorem dX8_hold_175 : decode cX8_hold 175 = .ok (.ireturn, 1) := by decide +kernel
def f_X8_hold (N : Nat) (x1 : Int32) (x2 : Int32) (x3 : Int32) (M : Mem) : Option (Int32 × Mem) := bd (f_X8_isHold N x1 M) (fun v1 => if v1 = 0 then (some ((-2 : Int32), M)) else (bd (f_X8_in N x2.toInt64 (0 : Int64) (2 : Int64) M) (fun v3 => if v3 = 0 then (some ((-2 : Int32), M)) else (jn (fun (a31 : Unit) => jn (fun (a46 : Unit) => jn (fun (a64 : Unit) => jn (fun (a81 : Int32) => ck (inb x1 4) (nm (setI M 11 x1.toNatClampNeg a81) (fun M5 => jn (fun (a109 : Mem) => if x2 = (1 : Int32) then (ck (inb x3 4) (ck (inb x1 4) (nm (setI a109 14 x1.toNatClampNeg (a109.1 21 x3.toNatClampNeg)) (fun M6 => ck (inb x1 4) (nm (setJ M6 17 x1.toNatClampNeg (0 : Int64)) (fun M7 => lp (fun (k136 : (Int32 × Mem) → Option (Int32 × Mem)) (a136 : Int32 × Mem) => ck (inb x3 4) (if (a136.2.1 21 x3.toNatClampNeg) ≤ a136.1 then (some ((1 : Int32), a136.2)) else (ck (inb x1 4) (ck (inb (((40 : Int32) * x3) + a136.1) 160) (ck (inb x1 4) (nm (setJ a136.2 17 x1.toNatClampNeg ((a136.2.2 17 x1.toNatClampNeg) + (a136.2.2 22 (((40 : Int32) * x3) + a136.1).toNatClampNeg))) (fun M8 => nm (a136.1 + (1 : Int32)) (fun v9 => k136 (v9, M8))))))))) N ((0 : Int32), M7))))))) else (some ((1 : Int32), a109))) (fun (k109 : Mem → Option (Int32 × Mem)) => if x2 = 0 then (ck (inb x3 10) (ck (inb x1 4) (nm (setI M5 12 x1.toNatClampNeg (M5.1 1 x3.toNatClampNeg)) (fun M10 => bd (f_X8_gap N x3 M10) (fun v11 => ck (inb x1 4) (nm (setI M10 13 x1.toNatClampNeg v11) (fun M13 => k109 M13))))))) else (k109 M5))))) (fun (k81 : Int32 → Option (Int32 × Mem)) => if x2 = (2 : Int32) then (k81 (0 : Int32)) else (k81 ((2 : Int32) + x2)))) (fun (k64 : Unit → Option (Int32 × Mem)) => if x2 = (1 : Int32) then (ck (inb x3 4) (if (M.1 20 x3.toNatClampNeg) = (-1 : Int32) then (some ((-11 : Int32), M)) else (k64 ()))) else (k64 ()))) (fun (k46 : Unit → Option (Int32 × Mem)) => if x2 = (1 : Int32) then (bd (f_X8_isSheet N x3 M) (fun v14 => if v14 = 0 then (some ((-2 : Int32), M)) else (k46 ()))) else (k46 ()))) (fun (k31 : Unit → Option (Int32 × Mem)) => if x2 = 0 then (bd (f_X8_isLine N x3 M) (fun v16 => if v16 = 0 then (some ((-2 : Int32), M)) else (k31 ()))) else (k31 ()))))))
set_option maxRecDepth 100000 in
set_option maxHeartbeats 4000000 in
theorem c_X8_hold {l : Launch} {D : va_G} {ac : Nat → ClassId} {A : Nat → Prop} {ad : Nat → Nat} {rest : va_W} (N : Nat) (x1 : Int32) (x2 : Int32) (x3 : Int32)  (M : Mem) (r0 : Int32) (M0 : Mem) (hf : f_X8_hold N x1 x2 x3 M = some (r0, M0)) : CtI l D ac A tabM ad rest yX8_hold cX8_hold 5 .int 3 [.ref (ad 0), .int x1, .int x2, .int x3] M r0 M0 := by
  refine ct_ofI (own := RX8) (by decide +kernel) rfl (Nat.le_of_ble_eq_true rfl) ?_
  intro p e s m args below meth c C
  unfold f_X8_hold at hf
  refine a_L (L' := [(0, .ref (ad 0)), (1, .int x1), (2, .int x2), (3, .int x3)]) rfl ?_
  refine a_iload_n (pc := 0) C dX8_hold_0 1 rfl ?_
  refine a_callS_Ir (pc := 1) (d' := 2) C dX8_hold_1 ml_X8_271 mc_X8_isHold ms_X8_isHold [.int x1] rfl (Nat.le_of_ble_eq_true rfl) (Nat.le_of_ble_eq_true rfl) rfl (Nat.le_of_ble_eq_true rfl) (fun r h => c_X8_isHold N x1  _  r h) hf (fun v1 hf => ?_)
  refine a_if_eq (pc := 4) 43 C dX8_hold_4 (by decide) hf (fun hf => ?_) (fun hf => ?_)
  · refine a_bipush (pc := 43) (v := (-2)) C dX8_hold_43 (by decide) ?_
    exact a_iret (pc := 45) C dX8_hold_45 (so_1 hf) (so_2 hf)
  · refine a_iload_n (pc := 7) C dX8_hold_7 2 rfl ?_
    refine a_i2l (pc := 8) C dX8_hold_8 ?_
    refine a_lconst (pc := 9) (v := 0) C dX8_hold_9 (by decide) ?_
    refine a_ldc2 (pc := 10) C dX8_hold_10 cj_X8_237 ?_
    refine a_callS_Ir (pc := 13) (d' := 1) C dX8_hold_13 ml_X8_98 mc_X8_in ms_X8_in [.long x2.toInt64, .long (0 : Int64), .long (2 : Int64)] rfl (Nat.le_of_ble_eq_true rfl) (Nat.le_of_ble_eq_true rfl) rfl (Nat.le_of_ble_eq_true rfl) (fun r h => c_X8_in N x2.toInt64 (0 : Int64) (2 : Int64)  _  r h) hf (fun v3 hf => ?_)
    refine a_if_eq (pc := 16) 43 C dX8_hold_16 (by decide) hf (fun hf => ?_) (fun hf => ?_)
    · refine a_bipush (pc := 43) (v := (-2)) C dX8_hold_43 (by decide) ?_
      exact a_iret (pc := 45) C dX8_hold_45 (so_1 hf) (so_2 hf)
    · refine a_iload_n (pc := 19) C dX8_hold_19 2 rfl ?_
      refine a_jn 31 (fun a31 : Unit => [(0, .ref (ad 0)), (1, .int x1), (2, .int x2), (3, .int x3)]) (fun a31 : Unit => []) (fun a31 : Unit => M) hf (fun a31 hf => ?_) (fun k31 hk31 hf => ?_)
      · refine a_iload_n (pc := 31) C dX8_hold_31 2 rfl ?_
        refine a_iconst (pc := 32) (v := 1) C dX8_hold_32 (by decide) ?_
        refine a_jn 46 (fun a46 : Unit => [(0, .ref (ad 0)), (1, .int x1), (2, .int x2), (3, .int x3)]) (fun a46 : Unit => []) (fun a46 : Unit => M) hf (fun a46 hf => ?_) (fun k46 hk46 hf => ?_)
        · refine a_iload_n (pc := 46) C dX8_hold_46 2 rfl ?_
          refine a_iconst (pc := 47) (v := 1) C dX8_hold_47 (by decide) ?_
          refine a_jn 64 (fun a64 : Unit => [(0, .ref (ad 0)), (1, .int x1), (2, .int x2), (3, .int x3)]) (fun a64 : Unit => []) (fun a64 : Unit => M) hf (fun a64 hf => ?_) (fun k64 hk64 hf => ?_)
          · refine a_aload_n (pc := 64) C dX8_hold_64 0 rfl ?_
            refine a_getR (pc := 65) C dX8_hold_65 fl_X8_50 tm_0 rfl ?_
            refine a_iload_n (pc := 68) C dX8_hold_68 1 rfl ?_
            refine a_iload_n (pc := 69) C dX8_hold_69 2 rfl ?_
            refine a_iconst (pc := 70) (v := 2) C dX8_hold_70 (by decide) ?_
            refine a_jn 81 (fun a81 : Int32 => [(0, .ref (ad 0)), (1, .int x1), (2, .int x2), (3, .int x3)]) (fun a81 : Int32 => [.int a81, .int x1, .ref (ad 11)]) (fun a81 : Int32 => M) hf (fun a81 hf => ?_) (fun k81 hk81 hf => ?_)
            · refine a_iast (pc := 81) C dX8_hold_81 tm_11 hf (fun M5 hf => ?_)
              refine a_iload_n (pc := 82) C dX8_hold_82 2 rfl ?_
              refine a_jn 109 (fun a109 : Mem => [(0, .ref (ad 0)), (1, .int x1), (2, .int x2), (3, .int x3)]) (fun a109 : Mem => []) (fun a109 : Mem => a109) hf (fun a109 hf => ?_) (fun k109 hk109 hf => ?_)
              · refine a_iload_n (pc := 109) C dX8_hold_109 2 rfl ?_
                refine a_iconst (pc := 110) (v := 1) C dX8_hold_110 (by decide) ?_
                refine a_icmp_ne (pc := 111) 174 C dX8_hold_111 (by decide) hf (fun hf => ?_) (fun hf => ?_)
                · refine a_iconst (pc := 174) (v := 1) C dX8_hold_174 (by decide) ?_
                  exact a_iret (pc := 175) C dX8_hold_175 (so_1 hf) (so_2 hf)
                · refine a_aload_n (pc := 114) C dX8_hold_114 0 rfl ?_
                  refine a_getR (pc := 115) C dX8_hold_115 fl_X8_59 tm_0 rfl ?_
                  refine a_iload_n (pc := 118) C dX8_hold_118 1 rfl ?_
                  refine a_aload_n (pc := 119) C dX8_hold_119 0 rfl ?_
                  refine a_getR (pc := 120) C dX8_hold_120 fl_X8_80 tm_0 rfl ?_
                  refine a_iload_n (pc := 123) C dX8_hold_123 3 rfl ?_
                  refine a_iald (pc := 124) C dX8_hold_124 tm_21 hf (fun hf => ?_)
                  refine a_iast (pc := 125) C dX8_hold_125 tm_14 hf (fun M6 hf => ?_)
                  refine a_aload_n (pc := 126) C dX8_hold_126 0 rfl ?_
                  refine a_getR (pc := 127) C dX8_hold_127 fl_X8_68 tm_0 rfl ?_
                  refine a_iload_n (pc := 130) C dX8_hold_130 1 rfl ?_
                  refine a_lconst (pc := 131) (v := 0) C dX8_hold_131 (by decide) ?_
                  refine a_last (pc := 132) C dX8_hold_132 tm_17 hf (fun M7 hf => ?_)
                  refine a_iconst (pc := 133) (v := 0) C dX8_hold_133 (by decide) ?_
                  refine a_istore (pc := 134) [(4, .int (0 : Int32)), (0, .ref (ad 0)), (1, .int x1), (2, .int x2), (3, .int x3)] C dX8_hold_134 (by decide) rfl ?_
                  refine a_sub [1, 2, 4, 0] rfl ?_
                  refine a_lp 136 (fun a136 : Int32 × Mem => [(0, .ref (ad 0)), (1, .int x1), (3, .int x3), (4, .int a136.1)]) (fun a136 : Int32 × Mem => []) (fun a136 : Int32 × Mem => a136.2) (fun k136 a136 hk136 hf => ?_) N ((0 : Int32), M7) hf
                  refine a_iload (pc := 136) C dX8_hold_136 3 rfl ?_
                  refine a_aload_n (pc := 138) C dX8_hold_138 0 rfl ?_
                  refine a_getR (pc := 139) C dX8_hold_139 fl_X8_80 tm_0 rfl ?_
                  refine a_iload_n (pc := 142) C dX8_hold_142 2 rfl ?_
                  refine a_iald (pc := 143) C dX8_hold_143 tm_21 hf (fun hf => ?_)
                  refine a_icmp_ge (pc := 144) 174 C dX8_hold_144 (by decide) hf (fun hf => ?_) (fun hf => ?_)
                  · refine a_iconst (pc := 174) (v := 1) C dX8_hold_174 (by decide) ?_
                    exact a_iret (pc := 175) C dX8_hold_175 (so_1 hf) (so_2 hf)
                  · refine a_aload_n (pc := 147) C dX8_hold_147 0 rfl ?_
                    refine a_getR (pc := 148) C dX8_hold_148 fl_X8_68 tm_0 rfl ?_
                    refine a_iload_n (pc := 151) C dX8_hold_151 1 rfl ?_
                    refine a_dup2_11 (pc := 152) C dX8_hold_152 rfl rfl ?_
                    refine a_lald (pc := 153) C dX8_hold_153 tm_17 hf (fun hf => ?_)
                    refine a_aload_n (pc := 154) C dX8_hold_154 0 rfl ?_
                    refine a_getR (pc := 155) C dX8_hold_155 fl_X8_83 tm_0 rfl ?_
                    refine a_bipush (pc := 158) (v := 40) C dX8_hold_158 (by decide) ?_
                    refine a_iload_n (pc := 160) C dX8_hold_160 2 rfl ?_
                    refine a_imul (pc := 161) C dX8_hold_161 ?_
                    refine a_iload (pc := 162) C dX8_hold_162 3 rfl ?_
                    refine a_iadd (pc := 164) C dX8_hold_164 ?_
                    refine a_lald (pc := 165) C dX8_hold_165 tm_22 hf (fun hf => ?_)
                    refine a_ladd (pc := 166) C dX8_hold_166 ?_
                    refine a_last (pc := 167) C dX8_hold_167 tm_17 hf (fun M8 hf => ?_)
                    refine a_iinc (pc := 168) (v := 1) (fun v9 => [(4, .int v9), (0, .ref (ad 0)), (1, .int x1), (3, .int x3)]) C dX8_hold_168 3 rfl (by decide) (by decide) (fun _ => rfl) hf (fun v9 hf => ?_)
                    refine a_goto (pc := 171) 136 C dX8_hold_171 (by decide) ?_
                    exact a_sub [1, 2, 3, 0] rfl (hk136 (v9, M8) hf)
              · refine a_if_ne (pc := 83) 109 C dX8_hold_83 (by decide) hf (fun hf => ?_) (fun hf => ?_)
                · exact a_sub [0, 1, 2, 3] rfl (hk109 M5 hf)
                · refine a_aload_n (pc := 86) C dX8_hold_86 0 rfl ?_
                  refine a_getR (pc := 87) C dX8_hold_87 fl_X8_53 tm_0 rfl ?_
                  refine a_iload_n (pc := 90) C dX8_hold_90 1 rfl ?_
                  refine a_aload_n (pc := 91) C dX8_hold_91 0 rfl ?_
                  refine a_getR (pc := 92) C dX8_hold_92 fl_X8_13 tm_0 rfl ?_
                  refine a_iload_n (pc := 95) C dX8_hold_95 3 rfl ?_
                  refine a_iald (pc := 96) C dX8_hold_96 tm_1 hf (fun hf => ?_)
                  refine a_iast (pc := 97) C dX8_hold_97 tm_12 hf (fun M10 hf => ?_)
                  refine a_aload_n (pc := 98) C dX8_hold_98 0 rfl ?_
                  refine a_getR (pc := 99) C dX8_hold_99 fl_X8_56 tm_0 rfl ?_
                  refine a_iload_n (pc := 102) C dX8_hold_102 1 rfl ?_
                  refine a_aload_n (pc := 103) C dX8_hold_103 0 rfl ?_
                  refine a_iload_n (pc := 104) C dX8_hold_104 3 rfl ?_
                  refine a_callV_Ir (pc := 105) (d' := 2) C dX8_hold_105 ml_X8_137 mc_X8_gap mv_X8_gap tm_0 rfl [.int x3] rfl (Nat.le_of_ble_eq_true rfl) (Nat.le_of_ble_eq_true rfl) rfl (Nat.le_of_ble_eq_true rfl) (fun r h => c_X8_gap N x3  _  r h) hf (fun v11 hf => ?_)
                  refine a_iast (pc := 108) C dX8_hold_108 tm_13 hf (fun M13 hf => ?_)
                  exact a_sub [0, 1, 2, 3] rfl (hk109 M13 hf)
            · refine a_icmp_ne (pc := 71) 78 C dX8_hold_71 (by decide) hf (fun hf => ?_) (fun hf => ?_)
              · refine a_iconst (pc := 78) (v := 2) C dX8_hold_78 (by decide) ?_
                refine a_iload_n (pc := 79) C dX8_hold_79 2 rfl ?_
                refine a_iadd (pc := 80) C dX8_hold_80 ?_
                exact a_sub [0, 1, 2, 3] rfl (hk81 ((2 : Int32) + x2) hf)
              · refine a_iconst (pc := 74) (v := 0) C dX8_hold_74 (by decide) ?_
                refine a_goto (pc := 75) 81 C dX8_hold_75 (by decide) ?_
                exact a_sub [0, 1, 2, 3] rfl (hk81 (0 : Int32) hf)
          · refine a_icmp_ne (pc := 48) 64 C dX8_hold_48 (by decide) hf (fun hf => ?_) (fun hf => ?_)
            · exact a_sub [0, 1, 2, 3] rfl (hk64 () hf)
            · refine a_aload_n (pc := 51) C dX8_hold_51 0 rfl ?_
              refine a_getR (pc := 52) C dX8_hold_52 fl_X8_77 tm_0 rfl ?_
              refine a_iload_n (pc := 55) C dX8_hold_55 3 rfl ?_
              refine a_iald (pc := 56) C dX8_hold_56 tm_20 hf (fun hf => ?_)
              refine a_iconst (pc := 57) (v := (-1)) C dX8_hold_57 (by decide) ?_
              refine a_icmp_ne (pc := 58) 64 C dX8_hold_58 (by decide) hf (fun hf => ?_) (fun hf => ?_)
              · exact a_sub [0, 1, 2, 3] rfl (hk64 () hf)
              · refine a_bipush (pc := 61) (v := (-11)) C dX8_hold_61 (by decide) ?_
                exact a_iret (pc := 63) C dX8_hold_63 (so_1 hf) (so_2 hf)
        · refine a_icmp_ne (pc := 33) 46 C dX8_hold_33 (by decide) hf (fun hf => ?_) (fun hf => ?_)
          · exact a_sub [0, 1, 2, 3] rfl (hk46 () hf)
          · refine a_iload_n (pc := 36) C dX8_hold_36 3 rfl ?_
            refine a_callS_Ir (pc := 37) (d' := 2) C dX8_hold_37 ml_X8_245 mc_X8_isSheet ms_X8_isSheet [.int x3] rfl (Nat.le_of_ble_eq_true rfl) (Nat.le_of_ble_eq_true rfl) rfl (Nat.le_of_ble_eq_true rfl) (fun r h => c_X8_isSheet N x3  _  r h) hf (fun v14 hf => ?_)
            refine a_if_ne (pc := 40) 46 C dX8_hold_40 (by decide) hf (fun hf => ?_) (fun hf => ?_)
            · exact a_sub [0, 1, 2, 3] rfl (hk46 () hf)
            · refine a_bipush (pc := 43) (v := (-2)) C dX8_hold_43 (by decide) ?_
              exact a_iret (pc := 45) C dX8_hold_45 (so_1 hf) (so_2 hf)
      · refine a_if_ne (pc := 20) 31 C dX8_hold_20 (by decide) hf (fun hf => ?_) (fun hf => ?_)
        · exact a_sub [0, 1, 2, 3] rfl (hk31 () hf)
        · refine a_aload_n (pc := 23) C dX8_hold_23 0 rfl ?_
          refine a_iload_n (pc := 24) C dX8_hold_24 3 rfl ?_
          refine a_callV_Ir (pc := 25) (d' := 2) C dX8_hold_25 ml_X8_134 mc_X8_isLine mv_X8_isLine tm_0 rfl [.int x3] rfl (Nat.le_of_ble_eq_true rfl) (Nat.le_of_ble_eq_true rfl) rfl (Nat.le_of_ble_eq_true rfl) (fun r h => c_X8_isLine N x3  _  r h) hf (fun v16 hf => ?_)
          refine a_if_eq (pc := 28) 43 C dX8_hold_28 (by decide) hf (fun hf => ?_) (fun hf => ?_)
          · refine a_bipush (pc := 43) (v := (-2)) C dX8_hold_43 (by decide) ?_
            exact a_iret (pc := 45) C dX8_hold_45 (so_1 hf) (so_2 hf)
          · exact a_sub [0, 1, 2, 3] rfl (hk31 () hf)
theorem dX8_wrongHolds_0 : decode cX8_wrongHolds 0 = .ok (.iload_n 1, 1) := by decide +kernel
theorem dX8_wrongHolds_1 : decode cX8_wrongHolds 1 = .ok (.invokestatic 271, 3) := by decide +kernel
theorem dX8_wrongHolds_4 : decode cX8_wrongHolds 4 = .ok (.ifCond .eq 10, 3) := by decide +kernel
theorem dX8_wrongHolds_7 : decode cX8_wrongHolds 7 = .ok (.iload_n 2, 1) := by decide +kernel
theorem dX8_wrongHolds_8 : decode cX8_wrongHolds 8 = .ok (.invokestatic 271, 3) := by decide +kernel
theorem dX8_wrongHolds_11 : decode cX8_wrongHolds 11 = .ok (.ifCond .ne 6, 3) := by decide +kernel
theorem dX8_wrongHolds_14 : decode cX8_wrongHolds 14 = .ok (.bipush (-2), 2) := by decide +kernel
theorem dX8_wrongHolds_16 : decode cX8_wrongHolds 16 = .ok (.ireturn, 1) := by decide +kernel
theorem dX8_wrongHolds_17 : decode cX8_wrongHolds 17 = .ok (.aload_n 0, 1) := by decide +kernel
theorem dX8_wrongHolds_18 : decode cX8_wrongHolds 18 = .ok (.getfield 50, 3) := by decide +kernel
theorem dX8_wrongHolds_21 : decode cX8_wrongHolds 21 = .ok (.iload_n 1, 1) := by decide +kernel
theorem dX8_wrongHolds_22 : decode cX8_wrongHolds 22 = .ok (.iaload, 1) := by decide +kernel
theorem dX8_wrongHolds_23 : decode cX8_wrongHolds 23 = .ok (.ifCond .eq 12, 3) := by decide +kernel
theorem dX8_wrongHolds_26 : decode cX8_wrongHolds 26 = .ok (.aload_n 0, 1) := by decide +kernel
theorem dX8_wrongHolds_27 : decode cX8_wrongHolds 27 = .ok (.getfield 50, 3) := by decide +kernel
theorem dX8_wrongHolds_30 : decode cX8_wrongHolds 30 = .ok (.iload_n 2, 1) := by decide +kernel
theorem dX8_wrongHolds_31 : decode cX8_wrongHolds 31 = .ok (.iaload, 1) := by decide +kernel
theorem dX8_wrongHolds_32 : decode cX8_wrongHolds 32 = .ok (.ifCond .ne 6, 3) := by decide +kernel
theorem dX8_wrongHolds_35 : decode cX8_wrongHolds 35 = .ok (.bipush (-11), 2) := by decide +kernel
theorem dX8_wrongHolds_37 : decode cX8_wrongHolds 37 = .ok (.ireturn, 1) := by decide +kernel
theorem dX8_wrongHolds_38 : decode cX8_wrongHolds 38 = .ok (.aload_n 0, 1) := by decide +kernel
theorem dX8_wrongHolds_39 : decode cX8_wrongHolds 39 = .ok (.getfield 50, 3) := by decide +kernel
theorem dX8_wrongHolds_42 : decode cX8_wrongHolds 42 = .ok (.iload_n 1, 1) := by decide +kernel
theorem dX8_wrongHolds_43 : decode cX8_wrongHolds 43 = .ok (.iaload, 1) := by decide +kernel
theorem dX8_wrongHolds_44 : decode cX8_wrongHolds 44 = .ok (.iconst 1, 1) := by decide +kernel
theorem dX8_wrongHolds_45 : decode cX8_wrongHolds 45 = .ok (.if_icmp .ne 17, 3) := by decide +kernel
theorem dX8_wrongHolds_48 : decode cX8_wrongHolds 48 = .ok (.aload_n 0, 1) := by decide +kernel
theorem dX8_wrongHolds_49 : decode cX8_wrongHolds 49 = .ok (.getfield 50, 3) := by decide +kernel
theorem dX8_wrongHolds_52 : decode cX8_wrongHolds 52 = .ok (.iload_n 2, 1) := by decide +kernel
theorem dX8_wrongHolds_53 : decode cX8_wrongHolds 53 = .ok (.iaload, 1) := by decide +kernel
theorem dX8_wrongHolds_54 : decode cX8_wrongHolds 54 = .ok (.iconst 1, 1) := by decide +kernel
theorem dX8_wrongHolds_55 : decode cX8_wrongHolds 55 = .ok (.if_icmp .ne 7, 3) := by decide +kernel
theorem dX8_wrongHolds_58 : decode cX8_wrongHolds 58 = .ok (.iconst 0, 1) := by decide +kernel
theorem dX8_wrongHolds_59 : decode cX8_wrongHolds 59 = .ok (.goto 5, 3) := by decide +kernel
theorem dX8_wrongHolds_62 : decode cX8_wrongHolds 62 = .ok (.bipush (-13), 2) := by decide +kernel
theorem dX8_wrongHolds_64 : decode cX8_wrongHolds 64 = .ok (.ireturn, 1) := by decide +kernel
def f_X8_wrongHolds (N : Nat) (x1 : Int32) (x2 : Int32) (M : Mem) : Option (Int32) := bd (f_X8_isHold N x1 M) (fun v1 => if v1 = 0 then (some (-2 : Int32)) else (bd (f_X8_isHold N x2 M) (fun v3 => if v3 = 0 then (some (-2 : Int32)) else (ck (inb x1 4) (if (M.1 11 x1.toNatClampNeg) = 0 then (some (-11 : Int32)) else (ck (inb x2 4) (if (M.1 11 x2.toNatClampNeg) = 0 then (some (-11 : Int32)) else (ck (inb x1 4) (jn (fun (a62 : Unit) => some (-13 : Int32)) (fun (k62 : Unit → Option (Int32)) => if (M.1 11 x1.toNatClampNeg) = (1 : Int32) then (ck (inb x2 4) (if (M.1 11 x2.toNatClampNeg) = (1 : Int32) then (some (0 : Int32)) else (k62 ()))) else (k62 ())))))))))))
set_option maxRecDepth 100000 in
set_option maxHeartbeats 4000000 in
theorem c_X8_wrongHolds {l : Launch} {D : va_G} {ac : Nat → ClassId} {A : Nat → Prop} {ad : Nat → Nat} {rest : va_W} (N : Nat) (x1 : Int32) (x2 : Int32)  (M : Mem) (r0 : Int32) (hf : f_X8_wrongHolds N x1 x2 M = some r0) : CtI l D ac A tabM ad rest yX8_wrongHolds cX8_wrongHolds 3 .int 3 [.ref (ad 0), .int x1, .int x2] M r0 M := by
  refine ct_ofI (own := RX8) (by decide +kernel) rfl (Nat.le_of_ble_eq_true rfl) ?_
  intro p e s m args below meth c C
  unfold f_X8_wrongHolds at hf
  refine a_L (L' := [(0, .ref (ad 0)), (1, .int x1), (2, .int x2)]) rfl ?_
  refine a_iload_n (pc := 0) C dX8_wrongHolds_0 1 rfl ?_
  refine a_callS_Ir (pc := 1) (d' := 2) C dX8_wrongHolds_1 ml_X8_271 mc_X8_isHold ms_X8_isHold [.int x1] rfl (Nat.le_of_ble_eq_true rfl) (Nat.le_of_ble_eq_true rfl) rfl (Nat.le_of_ble_eq_true rfl) (fun r h => c_X8_isHold N x1  _  r h) hf (fun v1 hf => ?_)
  refine a_if_eq (pc := 4) 14 C dX8_wrongHolds_4 (by decide) hf (fun hf => ?_) (fun hf => ?_)
  · refine a_bipush (pc := 14) (v := (-2)) C dX8_wrongHolds_14 (by decide) ?_
    exact a_iret (pc := 16) C dX8_wrongHolds_16 (Option.some.inj hf) rfl
  · refine a_iload_n (pc := 7) C dX8_wrongHolds_7 2 rfl ?_
    refine a_callS_Ir (pc := 8) (d' := 2) C dX8_wrongHolds_8 ml_X8_271 mc_X8_isHold ms_X8_isHold [.int x2] rfl (Nat.le_of_ble_eq_true rfl) (Nat.le_of_ble_eq_true rfl) rfl (Nat.le_of_ble_eq_true rfl) (fun r h => c_X8_isHold N x2  _  r h) hf (fun v3 hf => ?_)
    refine a_if_ne (pc := 11) 17 C dX8_wrongHolds_11 (by decide) hf (fun hf => ?_) (fun hf => ?_)
    · refine a_aload_n (pc := 17) C dX8_wrongHolds_17 0 rfl ?_
      refine a_getR (pc := 18) C dX8_wrongHolds_18 fl_X8_50 tm_0 rfl ?_
      refine a_iload_n (pc := 21) C dX8_wrongHolds_21 1 rfl ?_
      refine a_iald (pc := 22) C dX8_wrongHolds_22 tm_11 hf (fun hf => ?_)
      refine a_if_eq (pc := 23) 35 C dX8_wrongHolds_23 (by decide) hf (fun hf => ?_) (fun hf => ?_)
      · refine a_bipush (pc := 35) (v := (-11)) C dX8_wrongHolds_35 (by decide) ?_
        exact a_iret (pc := 37) C dX8_wrongHolds_37 (Option.some.inj hf) rfl
      · refine a_aload_n (pc := 26) C dX8_wrongHolds_26 0 rfl ?_
        refine a_getR (pc := 27) C dX8_wrongHolds_27 fl_X8_50 tm_0 rfl ?_
        refine a_iload_n (pc := 30) C dX8_wrongHolds_30 2 rfl ?_
        refine a_iald (pc := 31) C dX8_wrongHolds_31 tm_11 hf (fun hf => ?_)
        refine a_if_ne (pc := 32) 38 C dX8_wrongHolds_32 (by decide) hf (fun hf => ?_) (fun hf => ?_)
        · refine a_aload_n (pc := 38) C dX8_wrongHolds_38 0 rfl ?_
          refine a_getR (pc := 39) C dX8_wrongHolds_39 fl_X8_50 tm_0 rfl ?_
          refine a_iload_n (pc := 42) C dX8_wrongHolds_42 1 rfl ?_
          refine a_iald (pc := 43) C dX8_wrongHolds_43 tm_11 hf (fun hf => ?_)
          refine a_iconst (pc := 44) (v := 1) C dX8_wrongHolds_44 (by decide) ?_
          refine a_jn 62 (fun a62 : Unit => []) (fun a62 : Unit => []) (fun a62 : Unit => M) hf (fun a62 hf => ?_) (fun k62 hk62 hf => ?_)
          · refine a_bipush (pc := 62) (v := (-13)) C dX8_wrongHolds_62 (by decide) ?_
            exact a_iret (pc := 64) C dX8_wrongHolds_64 (Option.some.inj hf) rfl
          · refine a_icmp_ne (pc := 45) 62 C dX8_wrongHolds_45 (by decide) hf (fun hf => ?_) (fun hf => ?_)
            · exact a_sub [] rfl (hk62 () hf)
            · refine a_aload_n (pc := 48) C dX8_wrongHolds_48 0 rfl ?_
              refine a_getR (pc := 49) C dX8_wrongHolds_49 fl_X8_50 tm_0 rfl ?_
              refine a_iload_n (pc := 52) C dX8_wrongHolds_52 2 rfl ?_
              refine a_iald (pc := 53) C dX8_wrongHolds_53 tm_11 hf (fun hf => ?_)
              refine a_iconst (pc := 54) (v := 1) C dX8_wrongHolds_54 (by decide) ?_
              refine a_icmp_ne (pc := 55) 62 C dX8_wrongHolds_55 (by decide) hf (fun hf => ?_) (fun hf => ?_)
              · exact a_sub [] rfl (hk62 () hf)
              · refine a_iconst (pc := 58) (v := 0) C dX8_wrongHolds_58 (by decide) ?_
                refine a_goto (pc := 59) 64 C dX8_wrongHolds_59 (by decide) ?_
                exact a_iret (pc := 64) C dX8_wrongHolds_64 (Option.some.inj hf) rfl
        · refine a_bipush (pc := 35) (v := (-11)) C dX8_wrongHolds_35 (by decide) ?_
          exact a_iret (pc := 37) C dX8_wrongHolds_37 (Option.some.inj hf) rfl
    · refine a_bipush (pc := 14) (v := (-2)) C dX8_wrongHolds_14 (by decide) ?_
      exact a_iret (pc := 16) C dX8_wrongHolds_16 (Option.some.inj hf) rfl
theorem dX8_told_0 : decode cX8_told 0 = .ok (.iload_n 1, 1) := by decide +kernel
theorem dX8_told_1 : decode cX8_told 1 = .ok (.invokestatic 271, 3) := by decide +kernel
theorem dX8_told_4 : decode cX8_told 4 = .ok (.ifCond .eq 15, 3) := by decide +kernel
theorem dX8_told_7 : decode cX8_told 7 = .ok (.iload_n 2, 1) := by decide +kernel
theorem dX8_told_8 : decode cX8_told 8 = .ok (.i2l, 1) := by decide +kernel
theorem dX8_told_9 : decode cX8_told 9 = .ok (.lconst 0, 1) := by decide +kernel
theorem dX8_told_10 : decode cX8_told 10 = .ok (.ldc2_w 112, 3) := by decide +kernel
theorem dX8_told_13 : decode cX8_told 13 = .ok (.invokestatic 98, 3) := by decide +kernel
theorem dX8_told_16 : decode cX8_told 16 = .ok (.ifCond .ne 7, 3) := by decide +kernel
theorem dX8_told_19 : decode cX8_told 19 = .ok (.ldc2_w 143, 3) := by decide +kernel
theorem dX8_told_22 : decode cX8_told 22 = .ok (.lreturn, 1) := by decide +kernel
theorem dX8_told_23 : decode cX8_told 23 = .ok (.aload_n 0, 1) := by decide +kernel
theorem dX8_told_24 : decode cX8_told 24 = .ok (.getfield 50, 3) := by decide +kernel
theorem dX8_told_27 : decode cX8_told 27 = .ok (.iload_n 1, 1) := by decide +kernel
theorem dX8_told_28 : decode cX8_told 28 = .ok (.iaload, 1) := by decide +kernel
theorem dX8_told_29 : decode cX8_told 29 = .ok (.ifCond .ne 7, 3) := by decide +kernel
theorem dX8_told_32 : decode cX8_told 32 = .ok (.ldc2_w 298, 3) := by decide +kernel
theorem dX8_told_35 : decode cX8_told 35 = .ok (.lreturn, 1) := by decide +kernel
theorem dX8_told_36 : decode cX8_told 36 = .ok (.aload_n 0, 1) := by decide +kernel
theorem dX8_told_37 : decode cX8_told 37 = .ok (.getfield 50, 3) := by decide +kernel
theorem dX8_told_40 : decode cX8_told 40 = .ok (.iload_n 1, 1) := by decide +kernel
theorem dX8_told_41 : decode cX8_told 41 = .ok (.iaload, 1) := by decide +kernel
theorem dX8_told_42 : decode cX8_told 42 = .ok (.iload_n 2, 1) := by decide +kernel
theorem dX8_told_43 : decode cX8_told 43 = .ok (.iconst 3, 1) := by decide +kernel
theorem dX8_told_44 : decode cX8_told 44 = .ok (.if_icmp .ge 7, 3) := by decide +kernel
theorem dX8_told_47 : decode cX8_told 47 = .ok (.iconst 1, 1) := by decide +kernel
theorem dX8_told_48 : decode cX8_told 48 = .ok (.goto 13, 3) := by decide +kernel
theorem dX8_told_51 : decode cX8_told 51 = .ok (.iload_n 2, 1) := by decide +kernel
theorem dX8_told_52 : decode cX8_told 52 = .ok (.iconst 5, 1) := by decide +kernel
theorem dX8_told_53 : decode cX8_told 53 = .ok (.if_icmp .ge 7, 3) := by decide +kernel
theorem dX8_told_56 : decode cX8_told 56 = .ok (.iconst 2, 1) := by decide +kernel
theorem dX8_told_57 : decode cX8_told 57 = .ok (.goto 4, 3) := by decide +kernel
theorem dX8_told_60 : decode cX8_told 60 = .ok (.iconst 3, 1) := by decide +kernel
theorem dX8_told_61 : decode cX8_told 61 = .ok (.if_icmp .eq 7, 3) := by decide +kernel
theorem dX8_told_64 : decode cX8_told 64 = .ok (.ldc2_w 300, 3) := by decide +kernel
theorem dX8_told_67 : decode cX8_told 67 = .ok (.lreturn, 1) := by decide +kernel
theorem dX8_told_68 : decode cX8_told 68 = .ok (.iload_n 2, 1) := by decide +kernel
theorem dX8_told_69 : decode cX8_told 69 = .ok (.tableswitch 91 0 5 #[39, 46, 53, 67, 75, 83], 39) := by decide +kernel
theorem dX8_told_108 : decode cX8_told 108 = .ok (.aload_n 0, 1) := by decide +kernel
theorem dX8_told_109 : decode cX8_told 109 = .ok (.getfield 62, 3) := by decide +kernel
theorem dX8_told_112 : decode cX8_told 112 = .ok (.iload_n 1, 1) := by decide +kernel
theorem dX8_told_113 : decode cX8_told 113 = .ok (.laload, 1) := by decide +kernel
theorem dX8_told_114 : decode cX8_told 114 = .ok (.lreturn, 1) := by decide +kernel
theorem dX8_told_115 : decode cX8_told 115 = .ok (.aload_n 0, 1) := by decide +kernel
theorem dX8_told_116 : decode cX8_told 116 = .ok (.getfield 65, 3) := by decide +kernel
theorem dX8_told_119 : decode cX8_told 119 = .ok (.iload_n 1, 1) := by decide +kernel
theorem dX8_told_120 : decode cX8_told 120 = .ok (.laload, 1) := by decide +kernel
theorem dX8_told_121 : decode cX8_told 121 = .ok (.lreturn, 1) := by decide +kernel
theorem dX8_told_122 : decode cX8_told 122 = .ok (.aload_n 0, 1) := by decide +kernel
theorem dX8_told_123 : decode cX8_told 123 = .ok (.getfield 62, 3) := by decide +kernel
theorem dX8_told_126 : decode cX8_told 126 = .ok (.iload_n 1, 1) := by decide +kernel
theorem dX8_told_127 : decode cX8_told 127 = .ok (.laload, 1) := by decide +kernel
theorem dX8_told_128 : decode cX8_told 128 = .ok (.aload_n 0, 1) := by decide +kernel
theorem dX8_told_129 : decode cX8_told 129 = .ok (.getfield 65, 3) := by decide +kernel
theorem dX8_told_132 : decode cX8_told 132 = .ok (.iload_n 1, 1) := by decide +kernel
theorem dX8_told_133 : decode cX8_told 133 = .ok (.laload, 1) := by decide +kernel
theorem dX8_told_134 : decode cX8_told 134 = .ok (.ldiv, 1) := by decide +kernel
theorem dX8_told_135 : decode cX8_told 135 = .ok (.lreturn, 1) := by decide +kernel
theorem dX8_told_136 : decode cX8_told 136 = .ok (.aload_n 0, 1) := by decide +kernel
theorem dX8_told_137 : decode cX8_told 137 = .ok (.getfield 53, 3) := by decide +kernel
theorem dX8_told_140 : decode cX8_told 140 = .ok (.iload_n 1, 1) := by decide +kernel
theorem dX8_told_141 : decode cX8_told 141 = .ok (.iaload, 1) := by decide +kernel
theorem dX8_told_142 : decode cX8_told 142 = .ok (.i2l, 1) := by decide +kernel
theorem dX8_told_143 : decode cX8_told 143 = .ok (.lreturn, 1) := by decide +kernel
theorem dX8_told_144 : decode cX8_told 144 = .ok (.aload_n 0, 1) := by decide +kernel
theorem dX8_told_145 : decode cX8_told 145 = .ok (.getfield 56, 3) := by decide +kernel
theorem dX8_told_148 : decode cX8_told 148 = .ok (.iload_n 1, 1) := by decide +kernel
theorem dX8_told_149 : decode cX8_told 149 = .ok (.iaload, 1) := by decide +kernel
theorem dX8_told_150 : decode cX8_told 150 = .ok (.i2l, 1) := by decide +kernel
theorem dX8_told_151 : decode cX8_told 151 = .ok (.lreturn, 1) := by decide +kernel
theorem dX8_told_152 : decode cX8_told 152 = .ok (.aload_n 0, 1) := by decide +kernel
theorem dX8_told_153 : decode cX8_told 153 = .ok (.getfield 59, 3) := by decide +kernel
theorem dX8_told_156 : decode cX8_told 156 = .ok (.iload_n 1, 1) := by decide +kernel
theorem dX8_told_157 : decode cX8_told 157 = .ok (.iaload, 1) := by decide +kernel
theorem dX8_told_158 : decode cX8_told 158 = .ok (.i2l, 1) := by decide +kernel
theorem dX8_told_159 : decode cX8_told 159 = .ok (.lreturn, 1) := by decide +kernel
theorem dX8_told_160 : decode cX8_told 160 = .ok (.aload_n 0, 1) := by decide +kernel
theorem dX8_told_161 : decode cX8_told 161 = .ok (.getfield 68, 3) := by decide +kernel
theorem dX8_told_164 : decode cX8_told 164 = .ok (.iload_n 1, 1) := by decide +kernel
theorem dX8_told_165 : decode cX8_told 165 = .ok (.laload, 1) := by decide +kernel
theorem dX8_told_166 : decode cX8_told 166 = .ok (.lreturn, 1) := by decide +kernel
def f_X8_told (N : Nat) (x1 : Int32) (x2 : Int32) (M : Mem) : Option (Int64) := bd (f_X8_isHold N x1 M) (fun v1 => if v1 = 0 then (some (-4611686018427387906 : Int64)) else (bd (f_X8_in N x2.toInt64 (0 : Int64) (6 : Int64) M) (fun v3 => if v3 = 0 then (some (-4611686018427387906 : Int64)) else (ck (inb x1 4) (if (M.1 11 x1.toNatClampNeg) = 0 then (some (-4611686018427387915 : Int64)) else (ck (inb x1 4) (jn (fun (a61 : Int32) => if (M.1 11 x1.toNatClampNeg) = a61 then (if x2 = 0 then (ck (inb x1 4) (some (M.2 15 x1.toNatClampNeg))) else if x2 = 1 then (ck (inb x1 4) (some (M.2 16 x1.toNatClampNeg))) else if x2 = 2 then (ck (inb x1 4) (ck (inb x1 4) (ck (¬ (M.2 16 x1.toNatClampNeg) = 0) (some ((M.2 15 x1.toNatClampNeg) / (M.2 16 x1.toNatClampNeg)))))) else if x2 = 3 then (ck (inb x1 4) (some ((M.1 12 x1.toNatClampNeg).toInt64))) else if x2 = 4 then (ck (inb x1 4) (some ((M.1 13 x1.toNatClampNeg).toInt64))) else if x2 = 5 then (ck (inb x1 4) (some ((M.1 14 x1.toNatClampNeg).toInt64))) else (ck (inb x1 4) (some (M.2 17 x1.toNatClampNeg)))) else (some (-4611686018427387917 : Int64))) (fun (k61 : Int32 → Option (Int64)) => if (3 : Int32) ≤ x2 then (if (5 : Int32) ≤ x2 then (k61 (3 : Int32)) else (k61 (2 : Int32))) else (k61 (1 : Int32))))))))))
set_option maxRecDepth 100000 in
set_option maxHeartbeats 4000000 in
theorem c_X8_told {l : Launch} {D : va_G} {ac : Nat → ClassId} {A : Nat → Prop} {ad : Nat → Nat} {rest : va_W} (N : Nat) (x1 : Int32) (x2 : Int32)  (M : Mem) (r0 : Int64) (hf : f_X8_told N x1 x2 M = some r0) : CtJ l D ac A tabM ad rest yX8_told cX8_told 3  3 [.ref (ad 0), .int x1, .int x2] M r0 M := by
  refine ct_ofJ (own := RX8) (by decide +kernel) rfl (Nat.le_of_ble_eq_true rfl) ?_
  intro p e s m args below meth c C
  unfold f_X8_told at hf
  refine a_L (L' := [(0, .ref (ad 0)), (1, .int x1), (2, .int x2)]) rfl ?_
  refine a_iload_n (pc := 0) C dX8_told_0 1 rfl ?_
  refine a_callS_Ir (pc := 1) (d' := 2) C dX8_told_1 ml_X8_271 mc_X8_isHold ms_X8_isHold [.int x1] rfl (Nat.le_of_ble_eq_true rfl) (Nat.le_of_ble_eq_true rfl) rfl (Nat.le_of_ble_eq_true rfl) (fun r h => c_X8_isHold N x1  _  r h) hf (fun v1 hf => ?_)
  refine a_if_eq (pc := 4) 19 C dX8_told_4 (by decide) hf (fun hf => ?_) (fun hf => ?_)
  · refine a_ldc2 (pc := 19) C dX8_told_19 cj_X8_143 ?_
    exact a_lret (pc := 22) C dX8_told_22 (Option.some.inj hf) rfl
  · refine a_iload_n (pc := 7) C dX8_told_7 2 rfl ?_
    refine a_i2l (pc := 8) C dX8_told_8 ?_
    refine a_lconst (pc := 9) (v := 0) C dX8_told_9 (by decide) ?_
    refine a_ldc2 (pc := 10) C dX8_told_10 cj_X8_112 ?_
    refine a_callS_Ir (pc := 13) (d' := 1) C dX8_told_13 ml_X8_98 mc_X8_in ms_X8_in [.long x2.toInt64, .long (0 : Int64), .long (6 : Int64)] rfl (Nat.le_of_ble_eq_true rfl) (Nat.le_of_ble_eq_true rfl) rfl (Nat.le_of_ble_eq_true rfl) (fun r h => c_X8_in N x2.toInt64 (0 : Int64) (6 : Int64)  _  r h) hf (fun v3 hf => ?_)
    refine a_if_ne (pc := 16) 23 C dX8_told_16 (by decide) hf (fun hf => ?_) (fun hf => ?_)
    · refine a_aload_n (pc := 23) C dX8_told_23 0 rfl ?_
      refine a_getR (pc := 24) C dX8_told_24 fl_X8_50 tm_0 rfl ?_
      refine a_iload_n (pc := 27) C dX8_told_27 1 rfl ?_
      refine a_iald (pc := 28) C dX8_told_28 tm_11 hf (fun hf => ?_)
      refine a_if_ne (pc := 29) 36 C dX8_told_29 (by decide) hf (fun hf => ?_) (fun hf => ?_)
      · refine a_aload_n (pc := 36) C dX8_told_36 0 rfl ?_
        refine a_getR (pc := 37) C dX8_told_37 fl_X8_50 tm_0 rfl ?_
        refine a_iload_n (pc := 40) C dX8_told_40 1 rfl ?_
        refine a_iald (pc := 41) C dX8_told_41 tm_11 hf (fun hf => ?_)
        refine a_iload_n (pc := 42) C dX8_told_42 2 rfl ?_
        refine a_iconst (pc := 43) (v := 3) C dX8_told_43 (by decide) ?_
        refine a_jn 61 (fun a61 : Int32 => [(0, .ref (ad 0)), (1, .int x1), (2, .int x2)]) (fun a61 : Int32 => [.int a61, .int (M.1 11 x1.toNatClampNeg)]) (fun a61 : Int32 => M) hf (fun a61 hf => ?_) (fun k61 hk61 hf => ?_)
        · refine a_icmp_eq (pc := 61) 68 C dX8_told_61 (by decide) hf (fun hf => ?_) (fun hf => ?_)
          · refine a_iload_n (pc := 68) C dX8_told_68 2 rfl ?_
            by_cases hs5 : x2 = 0
            · rw [if_pos hs5] at hf
              refine a_tabIn (pc := 69) (off := 39) 108 C dX8_told_69 (by rw [hs5]; decide) (by rw [hs5]; decide) (by rw [hs5]; rfl) (by decide) ?_
              refine a_aload_n (pc := 108) C dX8_told_108 0 rfl ?_
              refine a_getR (pc := 109) C dX8_told_109 fl_X8_62 tm_0 rfl ?_
              refine a_iload_n (pc := 112) C dX8_told_112 1 rfl ?_
              refine a_lald (pc := 113) C dX8_told_113 tm_15 hf (fun hf => ?_)
              exact a_lret (pc := 114) C dX8_told_114 (Option.some.inj hf) rfl
            · rw [if_neg hs5] at hf
              by_cases hs6 : x2 = 1
              · rw [if_pos hs6] at hf
                refine a_tabIn (pc := 69) (off := 46) 115 C dX8_told_69 (by rw [hs6]; decide) (by rw [hs6]; decide) (by rw [hs6]; rfl) (by decide) ?_
                refine a_aload_n (pc := 115) C dX8_told_115 0 rfl ?_
                refine a_getR (pc := 116) C dX8_told_116 fl_X8_65 tm_0 rfl ?_
                refine a_iload_n (pc := 119) C dX8_told_119 1 rfl ?_
                refine a_lald (pc := 120) C dX8_told_120 tm_16 hf (fun hf => ?_)
                exact a_lret (pc := 121) C dX8_told_121 (Option.some.inj hf) rfl
              · rw [if_neg hs6] at hf
                by_cases hs7 : x2 = 2
                · rw [if_pos hs7] at hf
                  refine a_tabIn (pc := 69) (off := 53) 122 C dX8_told_69 (by rw [hs7]; decide) (by rw [hs7]; decide) (by rw [hs7]; rfl) (by decide) ?_
                  refine a_aload_n (pc := 122) C dX8_told_122 0 rfl ?_
                  refine a_getR (pc := 123) C dX8_told_123 fl_X8_62 tm_0 rfl ?_
                  refine a_iload_n (pc := 126) C dX8_told_126 1 rfl ?_
                  refine a_lald (pc := 127) C dX8_told_127 tm_15 hf (fun hf => ?_)
                  refine a_aload_n (pc := 128) C dX8_told_128 0 rfl ?_
                  refine a_getR (pc := 129) C dX8_told_129 fl_X8_65 tm_0 rfl ?_
                  refine a_iload_n (pc := 132) C dX8_told_132 1 rfl ?_
                  refine a_lald (pc := 133) C dX8_told_133 tm_16 hf (fun hf => ?_)
                  refine a_ldiv (pc := 134) C dX8_told_134 hf (fun hf => ?_)
                  exact a_lret (pc := 135) C dX8_told_135 (Option.some.inj hf) rfl
                · rw [if_neg hs7] at hf
                  by_cases hs8 : x2 = 3
                  · rw [if_pos hs8] at hf
                    refine a_tabIn (pc := 69) (off := 67) 136 C dX8_told_69 (by rw [hs8]; decide) (by rw [hs8]; decide) (by rw [hs8]; rfl) (by decide) ?_
                    refine a_aload_n (pc := 136) C dX8_told_136 0 rfl ?_
                    refine a_getR (pc := 137) C dX8_told_137 fl_X8_53 tm_0 rfl ?_
                    refine a_iload_n (pc := 140) C dX8_told_140 1 rfl ?_
                    refine a_iald (pc := 141) C dX8_told_141 tm_12 hf (fun hf => ?_)
                    refine a_i2l (pc := 142) C dX8_told_142 ?_
                    exact a_lret (pc := 143) C dX8_told_143 (Option.some.inj hf) rfl
                  · rw [if_neg hs8] at hf
                    by_cases hs9 : x2 = 4
                    · rw [if_pos hs9] at hf
                      refine a_tabIn (pc := 69) (off := 75) 144 C dX8_told_69 (by rw [hs9]; decide) (by rw [hs9]; decide) (by rw [hs9]; rfl) (by decide) ?_
                      refine a_aload_n (pc := 144) C dX8_told_144 0 rfl ?_
                      refine a_getR (pc := 145) C dX8_told_145 fl_X8_56 tm_0 rfl ?_
                      refine a_iload_n (pc := 148) C dX8_told_148 1 rfl ?_
                      refine a_iald (pc := 149) C dX8_told_149 tm_13 hf (fun hf => ?_)
                      refine a_i2l (pc := 150) C dX8_told_150 ?_
                      exact a_lret (pc := 151) C dX8_told_151 (Option.some.inj hf) rfl
                    · rw [if_neg hs9] at hf
                      by_cases hs10 : x2 = 5
                      · rw [if_pos hs10] at hf
                        refine a_tabIn (pc := 69) (off := 83) 152 C dX8_told_69 (by rw [hs10]; decide) (by rw [hs10]; decide) (by rw [hs10]; rfl) (by decide) ?_
                        refine a_aload_n (pc := 152) C dX8_told_152 0 rfl ?_
                        refine a_getR (pc := 153) C dX8_told_153 fl_X8_59 tm_0 rfl ?_
                        refine a_iload_n (pc := 156) C dX8_told_156 1 rfl ?_
                        refine a_iald (pc := 157) C dX8_told_157 tm_14 hf (fun hf => ?_)
                        refine a_i2l (pc := 158) C dX8_told_158 ?_
                        exact a_lret (pc := 159) C dX8_told_159 (Option.some.inj hf) rfl
                      · rw [if_neg hs10] at hf
                        refine a_tabOut (pc := 69) 160 C dX8_told_69 (by have nhs5 := ne_toInt hs5 (k := 0) (by decide); have nhs6 := ne_toInt hs6 (k := 1) (by decide); have nhs7 := ne_toInt hs7 (k := 2) (by decide); have nhs8 := ne_toInt hs8 (k := 3) (by decide); have nhs9 := ne_toInt hs9 (k := 4) (by decide); have nhs10 := ne_toInt hs10 (k := 5) (by decide); omega) (by decide) ?_
                        refine a_aload_n (pc := 160) C dX8_told_160 0 rfl ?_
                        refine a_getR (pc := 161) C dX8_told_161 fl_X8_68 tm_0 rfl ?_
                        refine a_iload_n (pc := 164) C dX8_told_164 1 rfl ?_
                        refine a_lald (pc := 165) C dX8_told_165 tm_17 hf (fun hf => ?_)
                        exact a_lret (pc := 166) C dX8_told_166 (Option.some.inj hf) rfl
          · refine a_ldc2 (pc := 64) C dX8_told_64 cj_X8_300 ?_
            exact a_lret (pc := 67) C dX8_told_67 (Option.some.inj hf) rfl
        · refine a_icmp_ge (pc := 44) 51 C dX8_told_44 (by decide) hf (fun hf => ?_) (fun hf => ?_)
          · refine a_iload_n (pc := 51) C dX8_told_51 2 rfl ?_
            refine a_iconst (pc := 52) (v := 5) C dX8_told_52 (by decide) ?_
            refine a_icmp_ge (pc := 53) 60 C dX8_told_53 (by decide) hf (fun hf => ?_) (fun hf => ?_)
            · refine a_iconst (pc := 60) (v := 3) C dX8_told_60 (by decide) ?_
              exact a_sub [0, 1, 2] rfl (hk61 (3 : Int32) hf)
            · refine a_iconst (pc := 56) (v := 2) C dX8_told_56 (by decide) ?_
              refine a_goto (pc := 57) 61 C dX8_told_57 (by decide) ?_
              exact a_sub [0, 1, 2] rfl (hk61 (2 : Int32) hf)
          · refine a_iconst (pc := 47) (v := 1) C dX8_told_47 (by decide) ?_
            refine a_goto (pc := 48) 61 C dX8_told_48 (by decide) ?_
            exact a_sub [0, 1, 2] rfl (hk61 (1 : Int32) hf)
      · refine a_ldc2 (pc := 32) C dX8_told_32 cj_X8_298 ?_
        exact a_lret (pc := 35) C dX8_told_35 (Option.some.inj hf) rfl
    · refine a_ldc2 (pc := 19) C dX8_told_19 cj_X8_143 ?_
      exact a_lret (pc := 22) C dX8_told_22 (Option.some.inj hf) rfl
theorem dX8_goes_0 : decode cX8_goes 0 = .ok (.aload_n 0, 1) := by decide +kernel
theorem dX8_goes_1 : decode cX8_goes 1 = .ok (.bipush 32, 2) := by decide +kernel
theorem dX8_goes_3 : decode cX8_goes 3 = .ok (.bipush 32, 2) := by decide +kernel
theorem dX8_goes_5 : decode cX8_goes 5 = .ok (.invokevirtual 305, 3) := by decide +kernel
theorem dX8_goes_8 : decode cX8_goes 8 = .ok (.ifCond .eq 16, 3) := by decide +kernel
theorem dX8_goes_11 : decode cX8_goes 11 = .ok (.aload_n 0, 1) := by decide +kernel
theorem dX8_goes_12 : decode cX8_goes 12 = .ok (.dup, 1) := by decide +kernel
theorem dX8_goes_13 : decode cX8_goes 13 = .ok (.getfield 302, 3) := by decide +kernel
theorem dX8_goes_16 : decode cX8_goes 16 = .ok (.iconst 1, 1) := by decide +kernel
theorem dX8_goes_17 : decode cX8_goes 17 = .ok (.iadd, 1) := by decide +kernel
theorem dX8_goes_18 : decode cX8_goes 18 = .ok (.putfield 302, 3) := by decide +kernel
theorem dX8_goes_21 : decode cX8_goes 21 = .ok (.goto (-21), 3) := by decide +kernel
theorem dX8_goes_24 : decode cX8_goes 24 = .ok (.aload_n 0, 1) := by decide +kernel
theorem dX8_goes_25 : decode cX8_goes 25 = .ok (.aload_n 0, 1) := by decide +kernel
theorem dX8_goes_26 : decode cX8_goes 26 = .ok (.getfield 302, 3) := by decide +kernel
theorem dX8_goes_29 : decode cX8_goes 29 = .ok (.putfield 308, 3) := by decide +kernel
theorem dX8_goes_32 : decode cX8_goes 32 = .ok (.aload_n 0, 1) := by decide +kernel
theorem dX8_goes_33 : decode cX8_goes 33 = .ok (.iconst 0, 1) := by decide +kernel
theorem dX8_goes_34 : decode cX8_goes 34 = .ok (.putfield 311, 3) := by decide +kernel
theorem dX8_goes_37 : decode cX8_goes 37 = .ok (.aload_n 0, 1) := by decide +kernel
theorem dX8_goes_38 : decode cX8_goes 38 = .ok (.aload_n 0, 1) := by decide +kernel
theorem dX8_goes_39 : decode cX8_goes 39 = .ok (.getfield 302, 3) := by decide +kernel
theorem dX8_goes_42 : decode cX8_goes 42 = .ok (.aload_n 0, 1) := by decide +kernel
theorem dX8_goes_43 : decode cX8_goes 43 = .ok (.getfield 145, 3) := by decide +kernel
theorem dX8_goes_46 : decode cX8_goes 46 = .ok (.if_icmp .ne 7, 3) := by decide +kernel
theorem dX8_goes_49 : decode cX8_goes 49 = .ok (.iconst 0, 1) := by decide +kernel
theorem dX8_goes_50 : decode cX8_goes 50 = .ok (.goto 49, 3) := by decide +kernel
theorem dX8_goes_53 : decode cX8_goes 53 = .ok (.aload_n 0, 1) := by decide +kernel
theorem dX8_goes_54 : decode cX8_goes 54 = .ok (.bipush 97, 2) := by decide +kernel
theorem dX8_goes_56 : decode cX8_goes 56 = .ok (.bipush 122, 2) := by decide +kernel
theorem dX8_goes_58 : decode cX8_goes 58 = .ok (.invokevirtual 305, 3) := by decide +kernel
theorem dX8_goes_61 : decode cX8_goes 61 = .ok (.ifCond .eq 7, 3) := by decide +kernel
theorem dX8_goes_64 : decode cX8_goes 64 = .ok (.iconst 1, 1) := by decide +kernel
theorem dX8_goes_65 : decode cX8_goes 65 = .ok (.goto 34, 3) := by decide +kernel
theorem dX8_goes_68 : decode cX8_goes 68 = .ok (.aload_n 0, 1) := by decide +kernel
theorem dX8_goes_69 : decode cX8_goes 69 = .ok (.bipush 48, 2) := by decide +kernel
theorem dX8_goes_71 : decode cX8_goes 71 = .ok (.bipush 57, 2) := by decide +kernel
theorem dX8_goes_73 : decode cX8_goes 73 = .ok (.invokevirtual 305, 3) := by decide +kernel
theorem dX8_goes_76 : decode cX8_goes 76 = .ok (.ifCond .eq 7, 3) := by decide +kernel
theorem dX8_goes_79 : decode cX8_goes 79 = .ok (.iconst 2, 1) := by decide +kernel
theorem dX8_goes_80 : decode cX8_goes 80 = .ok (.goto 19, 3) := by decide +kernel
theorem dX8_goes_83 : decode cX8_goes 83 = .ok (.aload_n 0, 1) := by decide +kernel
theorem dX8_goes_84 : decode cX8_goes 84 = .ok (.bipush 59, 2) := by decide +kernel
theorem dX8_goes_86 : decode cX8_goes 86 = .ok (.bipush 59, 2) := by decide +kernel
theorem dX8_goes_88 : decode cX8_goes 88 = .ok (.invokevirtual 305, 3) := by decide +kernel
theorem dX8_goes_91 : decode cX8_goes 91 = .ok (.ifCond .eq 7, 3) := by decide +kernel
theorem dX8_goes_94 : decode cX8_goes 94 = .ok (.iconst 3, 1) := by decide +kernel
theorem dX8_goes_95 : decode cX8_goes 95 = .ok (.goto 4, 3) := by decide +kernel
theorem dX8_goes_98 : decode cX8_goes 98 = .ok (.iconst 4, 1) := by decide +kernel
theorem dX8_goes_99 : decode cX8_goes 99 = .ok (.putfield 314, 3) := by decide +kernel
theorem dX8_goes_102 : decode cX8_goes 102 = .ok (.aload_n 0, 1) := by decide +kernel
theorem dX8_goes_103 : decode cX8_goes 103 = .ok (.getfield 314, 3) := by decide +kernel
theorem dX8_goes_106 : decode cX8_goes 106 = .ok (.iconst 1, 1) := by decide +kernel
theorem dX8_goes_107 : decode cX8_goes 107 = .ok (.if_icmp .ne 27, 3) := by decide +kernel
theorem dX8_goes_110 : decode cX8_goes 110 = .ok (.aload_n 0, 1) := by decide +kernel
theorem dX8_goes_111 : decode cX8_goes 111 = .ok (.bipush 97, 2) := by decide +kernel
theorem dX8_goes_113 : decode cX8_goes 113 = .ok (.bipush 122, 2) := by decide +kernel
theorem dX8_goes_115 : decode cX8_goes 115 = .ok (.invokevirtual 305, 3) := by decide +kernel
theorem dX8_goes_118 : decode cX8_goes 118 = .ok (.ifCond .eq 16, 3) := by decide +kernel
theorem dX8_goes_121 : decode cX8_goes 121 = .ok (.aload_n 0, 1) := by decide +kernel
theorem dX8_goes_122 : decode cX8_goes 122 = .ok (.dup, 1) := by decide +kernel
theorem dX8_goes_123 : decode cX8_goes 123 = .ok (.getfield 302, 3) := by decide +kernel
theorem dX8_goes_126 : decode cX8_goes 126 = .ok (.iconst 1, 1) := by decide +kernel
theorem dX8_goes_127 : decode cX8_goes 127 = .ok (.iadd, 1) := by decide +kernel
theorem dX8_goes_128 : decode cX8_goes 128 = .ok (.putfield 302, 3) := by decide +kernel
theorem dX8_goes_131 : decode cX8_goes 131 = .ok (.goto (-29), 3) := by decide +kernel
theorem dX8_goes_134 : decode cX8_goes 134 = .ok (.aload_n 0, 1) := by decide +kernel
theorem dX8_goes_135 : decode cX8_goes 135 = .ok (.getfield 314, 3) := by decide +kernel
theorem dX8_goes_138 : decode cX8_goes 138 = .ok (.iconst 2, 1) := by decide +kernel
theorem dX8_goes_139 : decode cX8_goes 139 = .ok (.if_icmp .ne 68, 3) := by decide +kernel
theorem dX8_goes_142 : decode cX8_goes 142 = .ok (.aload_n 0, 1) := by decide +kernel
theorem dX8_goes_143 : decode cX8_goes 143 = .ok (.bipush 48, 2) := by decide +kernel
theorem dX8_goes_145 : decode cX8_goes 145 = .ok (.bipush 57, 2) := by decide +kernel
theorem dX8_goes_147 : decode cX8_goes 147 = .ok (.invokevirtual 305, 3) := by decide +kernel
theorem dX8_goes_150 : decode cX8_goes 150 = .ok (.ifCond .eq 57, 3) := by decide +kernel
theorem dX8_goes_153 : decode cX8_goes 153 = .ok (.aload_n 0, 1) := by decide +kernel
theorem dX8_goes_154 : decode cX8_goes 154 = .ok (.aload_n 0, 1) := by decide +kernel
theorem dX8_goes_155 : decode cX8_goes 155 = .ok (.getfield 311, 3) := by decide +kernel
theorem dX8_goes_158 : decode cX8_goes 158 = .ok (.sipush 9999, 3) := by decide +kernel
theorem dX8_goes_161 : decode cX8_goes 161 = .ok (.if_icmp .le 10, 3) := by decide +kernel
theorem dX8_goes_164 : decode cX8_goes 164 = .ok (.aload_n 0, 1) := by decide +kernel
theorem dX8_goes_165 : decode cX8_goes 165 = .ok (.getfield 311, 3) := by decide +kernel
theorem dX8_goes_168 : decode cX8_goes 168 = .ok (.goto 23, 3) := by decide +kernel
theorem dX8_goes_171 : decode cX8_goes 171 = .ok (.bipush 10, 2) := by decide +kernel
theorem dX8_goes_173 : decode cX8_goes 173 = .ok (.aload_n 0, 1) := by decide +kernel
theorem dX8_goes_174 : decode cX8_goes 174 = .ok (.getfield 311, 3) := by decide +kernel
theorem dX8_goes_177 : decode cX8_goes 177 = .ok (.imul, 1) := by decide +kernel
theorem dX8_goes_178 : decode cX8_goes 178 = .ok (.aload_n 0, 1) := by decide +kernel
theorem dX8_goes_179 : decode cX8_goes 179 = .ok (.getfield 71, 3) := by decide +kernel
theorem dX8_goes_182 : decode cX8_goes 182 = .ok (.aload_n 0, 1) := by decide +kernel
theorem dX8_goes_183 : decode cX8_goes 183 = .ok (.getfield 302, 3) := by decide +kernel
theorem dX8_goes_186 : decode cX8_goes 186 = .ok (.iaload, 1) := by decide +kernel
theorem dX8_goes_187 : decode cX8_goes 187 = .ok (.iadd, 1) := by decide +kernel
theorem dX8_goes_188 : decode cX8_goes 188 = .ok (.bipush 48, 2) := by decide +kernel
theorem dX8_goes_190 : decode cX8_goes 190 = .ok (.isub, 1) := by decide +kernel
theorem dX8_goes_191 : decode cX8_goes 191 = .ok (.putfield 311, 3) := by decide +kernel
theorem dX8_goes_194 : decode cX8_goes 194 = .ok (.aload_n 0, 1) := by decide +kernel
theorem dX8_goes_195 : decode cX8_goes 195 = .ok (.dup, 1) := by decide +kernel
theorem dX8_goes_196 : decode cX8_goes 196 = .ok (.getfield 302, 3) := by decide +kernel
theorem dX8_goes_199 : decode cX8_goes 199 = .ok (.iconst 1, 1) := by decide +kernel
theorem dX8_goes_200 : decode cX8_goes 200 = .ok (.iadd, 1) := by decide +kernel
theorem dX8_goes_201 : decode cX8_goes 201 = .ok (.putfield 302, 3) := by decide +kernel
theorem dX8_goes_204 : decode cX8_goes 204 = .ok (.goto (-70), 3) := by decide +kernel
theorem dX8_goes_207 : decode cX8_goes 207 = .ok (.aload_n 0, 1) := by decide +kernel
theorem dX8_goes_208 : decode cX8_goes 208 = .ok (.dup, 1) := by decide +kernel
theorem dX8_goes_209 : decode cX8_goes 209 = .ok (.getfield 302, 3) := by decide +kernel
theorem dX8_goes_212 : decode cX8_goes 212 = .ok (.aload_n 0, 1) := by decide +kernel
theorem dX8_goes_213 : decode cX8_goes 213 = .ok (.getfield 314, 3) := by decide +kernel
theorem dX8_goes_216 : decode cX8_goes 216 = .ok (.iconst 3, 1) := by decide +kernel
theorem dX8_goes_217 : decode cX8_goes 217 = .ok (.if_icmp .ne 7, 3) := by decide +kernel
theorem dX8_goes_220 : decode cX8_goes 220 = .ok (.iconst 1, 1) := by decide +kernel
theorem dX8_goes_221 : decode cX8_goes 221 = .ok (.goto 4, 3) := by decide +kernel
theorem dX8_goes_224 : decode cX8_goes 224 = .ok (.iconst 0, 1) := by decide +kernel
theorem dX8_goes_225 : decode cX8_goes 225 = .ok (.iadd, 1) := by decide +kernel
theorem dX8_goes_226 : decode cX8_goes 226 = .ok (.putfield 302, 3) := by decide +kernel
theorem dX8_goes_229 : decode cX8_goes 229 = .ok (.return_, 1) := by decide +kernel
def f_X8_goes (N : Nat)  (M : Mem) : Option (Mem) := lp (fun (k0 : Mem → Option (Mem)) (a0 : Mem) => bd (f_X8_isAt N (32 : Int32) (32 : Int32) a0) (fun v1 => if v1 = 0 then (nm (setI a0 0 32 (a0.1 0 33)) (fun M3 => nm (setI M3 0 35 (0 : Int32)) (fun M4 => jn (fun (a99 : Int32) => nm (setI M4 0 34 a99) (fun M5 => lp (fun (k102 : Mem → Option (Mem)) (a102 : Mem) => jn (fun (a134 : Unit) => lp (fun (k134 : Mem → Option (Mem)) (a134 : Mem) => jn (fun (a207 : Unit) => jn (fun (a225 : Int32) => nm (setI a134 0 33 ((a134.1 0 33) + a225)) (fun M6 => some M6)) (fun (k225 : Int32 → Option (Mem)) => if (a134.1 0 34) = (3 : Int32) then (k225 (1 : Int32)) else (k225 (0 : Int32)))) (fun (k207 : Unit → Option (Mem)) => if (a134.1 0 34) = (2 : Int32) then (bd (f_X8_isAt N (48 : Int32) (57 : Int32) a134) (fun v7 => if v7 = 0 then (k207 ()) else (jn (fun (a191 : Int32) => nm (setI a134 0 35 a191) (fun M9 => nm (setI M9 0 33 ((M9.1 0 33) + (1 : Int32))) (fun M10 => k134 M10))) (fun (k191 : Int32 → Option (Mem)) => if (a134.1 0 35) ≤ (9999 : Int32) then (ck (inb (a134.1 0 33) 120) (k191 ((((10 : Int32) * (a134.1 0 35)) + (a134.1 18 (a134.1 0 33).toNatClampNeg)) - (48 : Int32)))) else (k191 (a134.1 0 35)))))) else (k207 ()))) N a102) (fun (k134 : Unit → Option (Mem)) => if (a102.1 0 34) = (1 : Int32) then (bd (f_X8_isAt N (97 : Int32) (122 : Int32) a102) (fun v11 => if v11 = 0 then (k134 ()) else (nm (setI a102 0 33 ((a102.1 0 33) + (1 : Int32))) (fun M13 => k102 M13)))) else (k134 ()))) N M5)) (fun (k99 : Int32 → Option (Mem)) => if (M4.1 0 33) = (M4.1 0 31) then (k99 (0 : Int32)) else (bd (f_X8_isAt N (97 : Int32) (122 : Int32) M4) (fun v14 => if v14 = 0 then (bd (f_X8_isAt N (48 : Int32) (57 : Int32) M4) (fun v16 => if v16 = 0 then (bd (f_X8_isAt N (59 : Int32) (59 : Int32) M4) (fun v18 => if v18 = 0 then (k99 (4 : Int32)) else (k99 (3 : Int32)))) else (k99 (2 : Int32)))) else (k99 (1 : Int32)))))))) else (nm (setI a0 0 33 ((a0.1 0 33) + (1 : Int32))) (fun M20 => k0 M20)))) N M
set_option maxRecDepth 100000 in
set_option maxHeartbeats 4000000 in
theorem c_X8_goes {l : Launch} {D : va_G} {ac : Nat → ClassId} {A : Nat → Prop} {ad : Nat → Nat} {rest : va_W} (N : Nat)   (M : Mem)  (M0 : Mem) (hf : f_X8_goes N  M = some M0) : CtV l D ac A tabM ad rest yX8_goes cX8_goes 1  3 [.ref (ad 0)] M  M0 := by
  refine ct_ofV (own := RX8) (by decide +kernel) rfl (Nat.le_of_ble_eq_true rfl) ?_
  intro p e s m args below meth c C
  unfold f_X8_goes at hf
  refine a_L (L' := [(0, .ref (ad 0))]) rfl ?_
  refine a_sub [0] rfl ?_
  refine a_lp 0 (fun a0 : Mem => [(0, .ref (ad 0))]) (fun a0 : Mem => []) (fun a0 : Mem => a0) (fun k0 a0 hk0 hf => ?_) N M hf
  refine a_aload_n (pc := 0) C dX8_goes_0 0 rfl ?_
  refine a_bipush (pc := 1) (v := 32) C dX8_goes_1 (by decide) ?_
  refine a_bipush (pc := 3) (v := 32) C dX8_goes_3 (by decide) ?_
  refine a_callV_Ir (pc := 5) (d' := 2) C dX8_goes_5 ml_X8_305 mc_X8_isAt mv_X8_isAt tm_0 rfl [.int (32 : Int32), .int (32 : Int32)] rfl (Nat.le_of_ble_eq_true rfl) (Nat.le_of_ble_eq_true rfl) rfl (Nat.le_of_ble_eq_true rfl) (fun r h => c_X8_isAt N (32 : Int32) (32 : Int32)  _  r h) hf (fun v1 hf => ?_)
  refine a_if_eq (pc := 8) 24 C dX8_goes_8 (by decide) hf (fun hf => ?_) (fun hf => ?_)
  · refine a_aload_n (pc := 24) C dX8_goes_24 0 rfl ?_
    refine a_aload_n (pc := 25) C dX8_goes_25 0 rfl ?_
    refine a_getI (pc := 26) C dX8_goes_26 fl_X8_302 tm_0 rfl ?_
    refine a_putI (pc := 29) C dX8_goes_29 fl_X8_308 tm_0 rfl hf (fun M3 hf => ?_)
    refine a_aload_n (pc := 32) C dX8_goes_32 0 rfl ?_
    refine a_iconst (pc := 33) (v := 0) C dX8_goes_33 (by decide) ?_
    refine a_putI (pc := 34) C dX8_goes_34 fl_X8_311 tm_0 rfl hf (fun M4 hf => ?_)
    refine a_aload_n (pc := 37) C dX8_goes_37 0 rfl ?_
    refine a_aload_n (pc := 38) C dX8_goes_38 0 rfl ?_
    refine a_getI (pc := 39) C dX8_goes_39 fl_X8_302 tm_0 rfl ?_
    refine a_aload_n (pc := 42) C dX8_goes_42 0 rfl ?_
    refine a_getI (pc := 43) C dX8_goes_43 fl_X8_145 tm_0 rfl ?_
    refine a_jn 99 (fun a99 : Int32 => [(0, .ref (ad 0))]) (fun a99 : Int32 => [.int a99, .ref (ad 0)]) (fun a99 : Int32 => M4) hf (fun a99 hf => ?_) (fun k99 hk99 hf => ?_)
    · refine a_putI (pc := 99) C dX8_goes_99 fl_X8_314 tm_0 rfl hf (fun M5 hf => ?_)
      refine a_sub [0] rfl ?_
      refine a_lp 102 (fun a102 : Mem => [(0, .ref (ad 0))]) (fun a102 : Mem => []) (fun a102 : Mem => a102) (fun k102 a102 hk102 hf => ?_) N M5 hf
      refine a_aload_n (pc := 102) C dX8_goes_102 0 rfl ?_
      refine a_getI (pc := 103) C dX8_goes_103 fl_X8_314 tm_0 rfl ?_
      refine a_iconst (pc := 106) (v := 1) C dX8_goes_106 (by decide) ?_
      refine a_jn 134 (fun a134 : Unit => [(0, .ref (ad 0))]) (fun a134 : Unit => []) (fun a134 : Unit => a102) hf (fun a134 hf => ?_) (fun k134 hk134 hf => ?_)
      · refine a_sub [0] rfl ?_
        refine a_lp 134 (fun a134 : Mem => [(0, .ref (ad 0))]) (fun a134 : Mem => []) (fun a134 : Mem => a134) (fun k134 a134 hk134 hf => ?_) N a102 hf
        refine a_aload_n (pc := 134) C dX8_goes_134 0 rfl ?_
        refine a_getI (pc := 135) C dX8_goes_135 fl_X8_314 tm_0 rfl ?_
        refine a_iconst (pc := 138) (v := 2) C dX8_goes_138 (by decide) ?_
        refine a_jn 207 (fun a207 : Unit => [(0, .ref (ad 0))]) (fun a207 : Unit => []) (fun a207 : Unit => a134) hf (fun a207 hf => ?_) (fun k207 hk207 hf => ?_)
        · refine a_aload_n (pc := 207) C dX8_goes_207 0 rfl ?_
          refine a_dup (pc := 208) C dX8_goes_208 rfl ?_
          refine a_getI (pc := 209) C dX8_goes_209 fl_X8_302 tm_0 rfl ?_
          refine a_aload_n (pc := 212) C dX8_goes_212 0 rfl ?_
          refine a_getI (pc := 213) C dX8_goes_213 fl_X8_314 tm_0 rfl ?_
          refine a_iconst (pc := 216) (v := 3) C dX8_goes_216 (by decide) ?_
          refine a_jn 225 (fun a225 : Int32 => []) (fun a225 : Int32 => [.int a225, .int (a134.1 0 33), .ref (ad 0)]) (fun a225 : Int32 => a134) hf (fun a225 hf => ?_) (fun k225 hk225 hf => ?_)
          · refine a_iadd (pc := 225) C dX8_goes_225 ?_
            refine a_putI (pc := 226) C dX8_goes_226 fl_X8_302 tm_0 rfl hf (fun M6 hf => ?_)
            exact a_vret (pc := 229) C dX8_goes_229 (Option.some.inj hf)
          · refine a_icmp_ne (pc := 217) 224 C dX8_goes_217 (by decide) hf (fun hf => ?_) (fun hf => ?_)
            · refine a_iconst (pc := 224) (v := 0) C dX8_goes_224 (by decide) ?_
              exact a_sub [] rfl (hk225 (0 : Int32) hf)
            · refine a_iconst (pc := 220) (v := 1) C dX8_goes_220 (by decide) ?_
              refine a_goto (pc := 221) 225 C dX8_goes_221 (by decide) ?_
              exact a_sub [] rfl (hk225 (1 : Int32) hf)
        · refine a_icmp_ne (pc := 139) 207 C dX8_goes_139 (by decide) hf (fun hf => ?_) (fun hf => ?_)
          · exact a_sub [0] rfl (hk207 () hf)
          · refine a_aload_n (pc := 142) C dX8_goes_142 0 rfl ?_
            refine a_bipush (pc := 143) (v := 48) C dX8_goes_143 (by decide) ?_
            refine a_bipush (pc := 145) (v := 57) C dX8_goes_145 (by decide) ?_
            refine a_callV_Ir (pc := 147) (d' := 2) C dX8_goes_147 ml_X8_305 mc_X8_isAt mv_X8_isAt tm_0 rfl [.int (48 : Int32), .int (57 : Int32)] rfl (Nat.le_of_ble_eq_true rfl) (Nat.le_of_ble_eq_true rfl) rfl (Nat.le_of_ble_eq_true rfl) (fun r h => c_X8_isAt N (48 : Int32) (57 : Int32)  _  r h) hf (fun v7 hf => ?_)
            refine a_if_eq (pc := 150) 207 C dX8_goes_150 (by decide) hf (fun hf => ?_) (fun hf => ?_)
            · exact a_sub [0] rfl (hk207 () hf)
            · refine a_aload_n (pc := 153) C dX8_goes_153 0 rfl ?_
              refine a_aload_n (pc := 154) C dX8_goes_154 0 rfl ?_
              refine a_getI (pc := 155) C dX8_goes_155 fl_X8_311 tm_0 rfl ?_
              refine a_sipush (pc := 158) (v := 9999) C dX8_goes_158 (by decide) ?_
              refine a_jn 191 (fun a191 : Int32 => [(0, .ref (ad 0))]) (fun a191 : Int32 => [.int a191, .ref (ad 0)]) (fun a191 : Int32 => a134) hf (fun a191 hf => ?_) (fun k191 hk191 hf => ?_)
              · refine a_putI (pc := 191) C dX8_goes_191 fl_X8_311 tm_0 rfl hf (fun M9 hf => ?_)
                refine a_aload_n (pc := 194) C dX8_goes_194 0 rfl ?_
                refine a_dup (pc := 195) C dX8_goes_195 rfl ?_
                refine a_getI (pc := 196) C dX8_goes_196 fl_X8_302 tm_0 rfl ?_
                refine a_iconst (pc := 199) (v := 1) C dX8_goes_199 (by decide) ?_
                refine a_iadd (pc := 200) C dX8_goes_200 ?_
                refine a_putI (pc := 201) C dX8_goes_201 fl_X8_302 tm_0 rfl hf (fun M10 hf => ?_)
                refine a_goto (pc := 204) 134 C dX8_goes_204 (by decide) ?_
                exact a_sub [0] rfl (hk134 M10 hf)
              · refine a_icmp_le (pc := 161) 171 C dX8_goes_161 (by decide) hf (fun hf => ?_) (fun hf => ?_)
                · refine a_bipush (pc := 171) (v := 10) C dX8_goes_171 (by decide) ?_
                  refine a_aload_n (pc := 173) C dX8_goes_173 0 rfl ?_
                  refine a_getI (pc := 174) C dX8_goes_174 fl_X8_311 tm_0 rfl ?_
                  refine a_imul (pc := 177) C dX8_goes_177 ?_
                  refine a_aload_n (pc := 178) C dX8_goes_178 0 rfl ?_
                  refine a_getR (pc := 179) C dX8_goes_179 fl_X8_71 tm_0 rfl ?_
                  refine a_aload_n (pc := 182) C dX8_goes_182 0 rfl ?_
                  refine a_getI (pc := 183) C dX8_goes_183 fl_X8_302 tm_0 rfl ?_
                  refine a_iald (pc := 186) C dX8_goes_186 tm_18 hf (fun hf => ?_)
                  refine a_iadd (pc := 187) C dX8_goes_187 ?_
                  refine a_bipush (pc := 188) (v := 48) C dX8_goes_188 (by decide) ?_
                  refine a_isub (pc := 190) C dX8_goes_190 ?_
                  exact a_sub [0] rfl (hk191 ((((10 : Int32) * (a134.1 0 35)) + (a134.1 18 (a134.1 0 33).toNatClampNeg)) - (48 : Int32)) hf)
                · refine a_aload_n (pc := 164) C dX8_goes_164 0 rfl ?_
                  refine a_getI (pc := 165) C dX8_goes_165 fl_X8_311 tm_0 rfl ?_
                  refine a_goto (pc := 168) 191 C dX8_goes_168 (by decide) ?_
                  exact a_sub [0] rfl (hk191 (a134.1 0 35) hf)
      · refine a_icmp_ne (pc := 107) 134 C dX8_goes_107 (by decide) hf (fun hf => ?_) (fun hf => ?_)
        · exact a_sub [0] rfl (hk134 () hf)
        · refine a_aload_n (pc := 110) C dX8_goes_110 0 rfl ?_
          refine a_bipush (pc := 111) (v := 97) C dX8_goes_111 (by decide) ?_
          refine a_bipush (pc := 113) (v := 122) C dX8_goes_113 (by decide) ?_
          refine a_callV_Ir (pc := 115) (d' := 2) C dX8_goes_115 ml_X8_305 mc_X8_isAt mv_X8_isAt tm_0 rfl [.int (97 : Int32), .int (122 : Int32)] rfl (Nat.le_of_ble_eq_true rfl) (Nat.le_of_ble_eq_true rfl) rfl (Nat.le_of_ble_eq_true rfl) (fun r h => c_X8_isAt N (97 : Int32) (122 : Int32)  _  r h) hf (fun v11 hf => ?_)
          refine a_if_eq (pc := 118) 134 C dX8_goes_118 (by decide) hf (fun hf => ?_) (fun hf => ?_)
          · exact a_sub [0] rfl (hk134 () hf)
          · refine a_aload_n (pc := 121) C dX8_goes_121 0 rfl ?_
            refine a_dup (pc := 122) C dX8_goes_122 rfl ?_
            refine a_getI (pc := 123) C dX8_goes_123 fl_X8_302 tm_0 rfl ?_
            refine a_iconst (pc := 126) (v := 1) C dX8_goes_126 (by decide) ?_
            refine a_iadd (pc := 127) C dX8_goes_127 ?_
            refine a_putI (pc := 128) C dX8_goes_128 fl_X8_302 tm_0 rfl hf (fun M13 hf => ?_)
            refine a_goto (pc := 131) 102 C dX8_goes_131 (by decide) ?_
            exact a_sub [0] rfl (hk102 M13 hf)
    · refine a_icmp_ne (pc := 46) 53 C dX8_goes_46 (by decide) hf (fun hf => ?_) (fun hf => ?_)
      · refine a_aload_n (pc := 53) C dX8_goes_53 0 rfl ?_
        refine a_bipush (pc := 54) (v := 97) C dX8_goes_54 (by decide) ?_
        refine a_bipush (pc := 56) (v := 122) C dX8_goes_56 (by decide) ?_
        refine a_callV_Ir (pc := 58) (d' := 2) C dX8_goes_58 ml_X8_305 mc_X8_isAt mv_X8_isAt tm_0 rfl [.int (97 : Int32), .int (122 : Int32)] rfl (Nat.le_of_ble_eq_true rfl) (Nat.le_of_ble_eq_true rfl) rfl (Nat.le_of_ble_eq_true rfl) (fun r h => c_X8_isAt N (97 : Int32) (122 : Int32)  _  r h) hf (fun v14 hf => ?_)
        refine a_if_eq (pc := 61) 68 C dX8_goes_61 (by decide) hf (fun hf => ?_) (fun hf => ?_)
        · refine a_aload_n (pc := 68) C dX8_goes_68 0 rfl ?_
          refine a_bipush (pc := 69) (v := 48) C dX8_goes_69 (by decide) ?_
          refine a_bipush (pc := 71) (v := 57) C dX8_goes_71 (by decide) ?_
          refine a_callV_Ir (pc := 73) (d' := 2) C dX8_goes_73 ml_X8_305 mc_X8_isAt mv_X8_isAt tm_0 rfl [.int (48 : Int32), .int (57 : Int32)] rfl (Nat.le_of_ble_eq_true rfl) (Nat.le_of_ble_eq_true rfl) rfl (Nat.le_of_ble_eq_true rfl) (fun r h => c_X8_isAt N (48 : Int32) (57 : Int32)  _  r h) hf (fun v16 hf => ?_)
          refine a_if_eq (pc := 76) 83 C dX8_goes_76 (by decide) hf (fun hf => ?_) (fun hf => ?_)
          · refine a_aload_n (pc := 83) C dX8_goes_83 0 rfl ?_
            refine a_bipush (pc := 84) (v := 59) C dX8_goes_84 (by decide) ?_
            refine a_bipush (pc := 86) (v := 59) C dX8_goes_86 (by decide) ?_
            refine a_callV_Ir (pc := 88) (d' := 2) C dX8_goes_88 ml_X8_305 mc_X8_isAt mv_X8_isAt tm_0 rfl [.int (59 : Int32), .int (59 : Int32)] rfl (Nat.le_of_ble_eq_true rfl) (Nat.le_of_ble_eq_true rfl) rfl (Nat.le_of_ble_eq_true rfl) (fun r h => c_X8_isAt N (59 : Int32) (59 : Int32)  _  r h) hf (fun v18 hf => ?_)
            refine a_if_eq (pc := 91) 98 C dX8_goes_91 (by decide) hf (fun hf => ?_) (fun hf => ?_)
            · refine a_iconst (pc := 98) (v := 4) C dX8_goes_98 (by decide) ?_
              exact a_sub [0] rfl (hk99 (4 : Int32) hf)
            · refine a_iconst (pc := 94) (v := 3) C dX8_goes_94 (by decide) ?_
              refine a_goto (pc := 95) 99 C dX8_goes_95 (by decide) ?_
              exact a_sub [0] rfl (hk99 (3 : Int32) hf)
          · refine a_iconst (pc := 79) (v := 2) C dX8_goes_79 (by decide) ?_
            refine a_goto (pc := 80) 99 C dX8_goes_80 (by decide) ?_
            exact a_sub [0] rfl (hk99 (2 : Int32) hf)
        · refine a_iconst (pc := 64) (v := 1) C dX8_goes_64 (by decide) ?_
          refine a_goto (pc := 65) 99 C dX8_goes_65 (by decide) ?_
          exact a_sub [0] rfl (hk99 (1 : Int32) hf)
      · refine a_iconst (pc := 49) (v := 0) C dX8_goes_49 (by decide) ?_
        refine a_goto (pc := 50) 99 C dX8_goes_50 (by decide) ?_
        exact a_sub [0] rfl (hk99 (0 : Int32) hf)
  · refine a_aload_n (pc := 11) C dX8_goes_11 0 rfl ?_
    refine a_dup (pc := 12) C dX8_goes_12 rfl ?_
    refine a_getI (pc := 13) C dX8_goes_13 fl_X8_302 tm_0 rfl ?_
    refine a_iconst (pc := 16) (v := 1) C dX8_goes_16 (by decide) ?_
    refine a_iadd (pc := 17) C dX8_goes_17 ?_
    refine a_putI (pc := 18) C dX8_goes_18 fl_X8_302 tm_0 rfl hf (fun M20 hf => ?_)
    refine a_goto (pc := 21) 0 C dX8_goes_21 (by decide) ?_
    exact a_sub [0] rfl (hk0 M20 hf)
theorem dX8_sheet_0 : decode cX8_sheet 0 = .ok (.iload_n 1, 1) := by decide +kernel
theorem dX8_sheet_1 : decode cX8_sheet 1 = .ok (.invokestatic 245, 3) := by decide +kernel
theorem dX8_sheet_4 : decode cX8_sheet 4 = .ok (.ifCond .eq 26, 3) := by decide +kernel
theorem dX8_sheet_7 : decode cX8_sheet 7 = .ok (.iload_n 2, 1) := by decide +kernel
theorem dX8_sheet_8 : decode cX8_sheet 8 = .ok (.i2l, 1) := by decide +kernel
theorem dX8_sheet_9 : decode cX8_sheet 9 = .ok (.ldc2_w 269, 3) := by decide +kernel
theorem dX8_sheet_12 : decode cX8_sheet 12 = .ok (.lconst 1, 1) := by decide +kernel
theorem dX8_sheet_13 : decode cX8_sheet 13 = .ok (.invokestatic 98, 3) := by decide +kernel
theorem dX8_sheet_16 : decode cX8_sheet 16 = .ok (.ifCond .eq 14, 3) := by decide +kernel
theorem dX8_sheet_19 : decode cX8_sheet 19 = .ok (.iload_n 2, 1) := by decide +kernel
theorem dX8_sheet_20 : decode cX8_sheet 20 = .ok (.iconst (-1), 1) := by decide +kernel
theorem dX8_sheet_21 : decode cX8_sheet 21 = .ok (.if_icmp .eq 12, 3) := by decide +kernel
theorem dX8_sheet_24 : decode cX8_sheet 24 = .ok (.iload_n 3, 1) := by decide +kernel
theorem dX8_sheet_25 : decode cX8_sheet 25 = .ok (.bipush 40, 2) := by decide +kernel
theorem dX8_sheet_27 : decode cX8_sheet 27 = .ok (.if_icmp .le 6, 3) := by decide +kernel
theorem dX8_sheet_30 : decode cX8_sheet 30 = .ok (.bipush (-2), 2) := by decide +kernel
theorem dX8_sheet_32 : decode cX8_sheet 32 = .ok (.ireturn, 1) := by decide +kernel
theorem dX8_sheet_33 : decode cX8_sheet 33 = .ok (.iload_n 2, 1) := by decide +kernel
theorem dX8_sheet_34 : decode cX8_sheet 34 = .ok (.iconst (-1), 1) := by decide +kernel
theorem dX8_sheet_35 : decode cX8_sheet 35 = .ok (.if_icmp .eq 10, 3) := by decide +kernel
theorem dX8_sheet_38 : decode cX8_sheet 38 = .ok (.iload_n 3, 1) := by decide +kernel
theorem dX8_sheet_39 : decode cX8_sheet 39 = .ok (.ifCond .ge 6, 3) := by decide +kernel
theorem dX8_sheet_42 : decode cX8_sheet 42 = .ok (.bipush (-14), 2) := by decide +kernel
theorem dX8_sheet_44 : decode cX8_sheet 44 = .ok (.ireturn, 1) := by decide +kernel
theorem dX8_sheet_45 : decode cX8_sheet 45 = .ok (.aload_n 0, 1) := by decide +kernel
theorem dX8_sheet_46 : decode cX8_sheet 46 = .ok (.getfield 77, 3) := by decide +kernel
theorem dX8_sheet_49 : decode cX8_sheet 49 = .ok (.iload_n 1, 1) := by decide +kernel
theorem dX8_sheet_50 : decode cX8_sheet 50 = .ok (.iload_n 2, 1) := by decide +kernel
theorem dX8_sheet_51 : decode cX8_sheet 51 = .ok (.iastore, 1) := by decide +kernel
theorem dX8_sheet_52 : decode cX8_sheet 52 = .ok (.aload_n 0, 1) := by decide +kernel
theorem dX8_sheet_53 : decode cX8_sheet 53 = .ok (.getfield 80, 3) := by decide +kernel
theorem dX8_sheet_56 : decode cX8_sheet 56 = .ok (.iload_n 1, 1) := by decide +kernel
theorem dX8_sheet_57 : decode cX8_sheet 57 = .ok (.iload_n 2, 1) := by decide +kernel
theorem dX8_sheet_58 : decode cX8_sheet 58 = .ok (.iconst (-1), 1) := by decide +kernel
theorem dX8_sheet_59 : decode cX8_sheet 59 = .ok (.if_icmp .ne 7, 3) := by decide +kernel
theorem dX8_sheet_62 : decode cX8_sheet 62 = .ok (.iconst 0, 1) := by decide +kernel
theorem dX8_sheet_63 : decode cX8_sheet 63 = .ok (.goto 4, 3) := by decide +kernel
theorem dX8_sheet_66 : decode cX8_sheet 66 = .ok (.iload_n 3, 1) := by decide +kernel
theorem dX8_sheet_67 : decode cX8_sheet 67 = .ok (.iastore, 1) := by decide +kernel
theorem dX8_sheet_68 : decode cX8_sheet 68 = .ok (.iconst 0, 1) := by decide +kernel
theorem dX8_sheet_69 : decode cX8_sheet 69 = .ok (.istore 4, 2) := by decide +kernel
theorem dX8_sheet_71 : decode cX8_sheet 71 = .ok (.iload 4, 2) := by decide +kernel
theorem dX8_sheet_73 : decode cX8_sheet 73 = .ok (.bipush 40, 2) := by decide +kernel
theorem dX8_sheet_75 : decode cX8_sheet 75 = .ok (.if_icmp .ge 22, 3) := by decide +kernel
theorem dX8_sheet_78 : decode cX8_sheet 78 = .ok (.aload_n 0, 1) := by decide +kernel
theorem dX8_sheet_79 : decode cX8_sheet 79 = .ok (.getfield 83, 3) := by decide +kernel
theorem dX8_sheet_82 : decode cX8_sheet 82 = .ok (.bipush 40, 2) := by decide +kernel
theorem dX8_sheet_84 : decode cX8_sheet 84 = .ok (.iload_n 1, 1) := by decide +kernel
theorem dX8_sheet_85 : decode cX8_sheet 85 = .ok (.imul, 1) := by decide +kernel
theorem dX8_sheet_86 : decode cX8_sheet 86 = .ok (.iload 4, 2) := by decide +kernel
theorem dX8_sheet_88 : decode cX8_sheet 88 = .ok (.iadd, 1) := by decide +kernel
theorem dX8_sheet_89 : decode cX8_sheet 89 = .ok (.lconst 0, 1) := by decide +kernel
theorem dX8_sheet_90 : decode cX8_sheet 90 = .ok (.lastore, 1) := by decide +kernel
theorem dX8_sheet_91 : decode cX8_sheet 91 = .ok (.iinc 4 1, 3) := by decide +kernel
theorem dX8_sheet_94 : decode cX8_sheet 94 = .ok (.goto (-23), 3) := by decide +kernel
theorem dX8_sheet_97 : decode cX8_sheet 97 = .ok (.iconst 1, 1) := by decide +kernel
theorem dX8_sheet_98 : decode cX8_sheet 98 = .ok (.ireturn, 1) := by decide +kernel
def f_X8_sheet (N : Nat) (x1 : Int32) (x2 : Int32) (x3 : Int32) (M : Mem) : Option (Int32 × Mem) := bd (f_X8_isSheet N x1 M) (fun v1 => if v1 = 0 then (some ((-2 : Int32), M)) else (bd (f_X8_in N x2.toInt64 (-1 : Int64) (1 : Int64) M) (fun v3 => if v3 = 0 then (some ((-2 : Int32), M)) else (jn (fun (a33 : Unit) => jn (fun (a45 : Unit) => ck (inb x1 4) (nm (setI M 20 x1.toNatClampNeg x2) (fun M5 => jn (fun (a67 : Int32) => ck (inb x1 4) (nm (setI M5 21 x1.toNatClampNeg a67) (fun M6 => lp (fun (k71 : (Int32 × Mem) → Option (Int32 × Mem)) (a71 : Int32 × Mem) => if (40 : Int32) ≤ a71.1 then (some ((1 : Int32), a71.2)) else (ck (inb (((40 : Int32) * x1) + a71.1) 160) (nm (setJ a71.2 22 (((40 : Int32) * x1) + a71.1).toNatClampNeg (0 : Int64)) (fun M7 => nm (a71.1 + (1 : Int32)) (fun v8 => k71 (v8, M7)))))) N ((0 : Int32), M6)))) (fun (k67 : Int32 → Option (Int32 × Mem)) => if x2 = (-1 : Int32) then (k67 (0 : Int32)) else (k67 x3))))) (fun (k45 : Unit → Option (Int32 × Mem)) => if x2 = (-1 : Int32) then (k45 ()) else (if 0 ≤ x3 then (k45 ()) else (some ((-14 : Int32), M))))) (fun (k33 : Unit → Option (Int32 × Mem)) => if x2 = (-1 : Int32) then (k33 ()) else (if x3 ≤ (40 : Int32) then (k33 ()) else (some ((-2 : Int32), M))))))))
set_option maxRecDepth 100000 in
set_option maxHeartbeats 4000000 in
theorem c_X8_sheet {l : Launch} {D : va_G} {ac : Nat → ClassId} {A : Nat → Prop} {ad : Nat → Nat} {rest : va_W} (N : Nat) (x1 : Int32) (x2 : Int32) (x3 : Int32)  (M : Mem) (r0 : Int32) (M0 : Mem) (hf : f_X8_sheet N x1 x2 x3 M = some (r0, M0)) : CtI l D ac A tabM ad rest yX8_sheet cX8_sheet 5 .int 3 [.ref (ad 0), .int x1, .int x2, .int x3] M r0 M0 := by
  refine ct_ofI (own := RX8) (by decide +kernel) rfl (Nat.le_of_ble_eq_true rfl) ?_
  intro p e s m args below meth c C
  unfold f_X8_sheet at hf
  refine a_L (L' := [(0, .ref (ad 0)), (1, .int x1), (2, .int x2), (3, .int x3)]) rfl ?_
  refine a_iload_n (pc := 0) C dX8_sheet_0 1 rfl ?_
  refine a_callS_Ir (pc := 1) (d' := 2) C dX8_sheet_1 ml_X8_245 mc_X8_isSheet ms_X8_isSheet [.int x1] rfl (Nat.le_of_ble_eq_true rfl) (Nat.le_of_ble_eq_true rfl) rfl (Nat.le_of_ble_eq_true rfl) (fun r h => c_X8_isSheet N x1  _  r h) hf (fun v1 hf => ?_)
  refine a_if_eq (pc := 4) 30 C dX8_sheet_4 (by decide) hf (fun hf => ?_) (fun hf => ?_)
  · refine a_bipush (pc := 30) (v := (-2)) C dX8_sheet_30 (by decide) ?_
    exact a_iret (pc := 32) C dX8_sheet_32 (so_1 hf) (so_2 hf)
  · refine a_iload_n (pc := 7) C dX8_sheet_7 2 rfl ?_
    refine a_i2l (pc := 8) C dX8_sheet_8 ?_
    refine a_ldc2 (pc := 9) C dX8_sheet_9 cj_X8_269 ?_
    refine a_lconst (pc := 12) (v := 1) C dX8_sheet_12 (by decide) ?_
    refine a_callS_Ir (pc := 13) (d' := 1) C dX8_sheet_13 ml_X8_98 mc_X8_in ms_X8_in [.long x2.toInt64, .long (-1 : Int64), .long (1 : Int64)] rfl (Nat.le_of_ble_eq_true rfl) (Nat.le_of_ble_eq_true rfl) rfl (Nat.le_of_ble_eq_true rfl) (fun r h => c_X8_in N x2.toInt64 (-1 : Int64) (1 : Int64)  _  r h) hf (fun v3 hf => ?_)
    refine a_if_eq (pc := 16) 30 C dX8_sheet_16 (by decide) hf (fun hf => ?_) (fun hf => ?_)
    · refine a_bipush (pc := 30) (v := (-2)) C dX8_sheet_30 (by decide) ?_
      exact a_iret (pc := 32) C dX8_sheet_32 (so_1 hf) (so_2 hf)
    · refine a_iload_n (pc := 19) C dX8_sheet_19 2 rfl ?_
      refine a_iconst (pc := 20) (v := (-1)) C dX8_sheet_20 (by decide) ?_
      refine a_jn 33 (fun a33 : Unit => [(0, .ref (ad 0)), (1, .int x1), (2, .int x2), (3, .int x3)]) (fun a33 : Unit => []) (fun a33 : Unit => M) hf (fun a33 hf => ?_) (fun k33 hk33 hf => ?_)
      · refine a_iload_n (pc := 33) C dX8_sheet_33 2 rfl ?_
        refine a_iconst (pc := 34) (v := (-1)) C dX8_sheet_34 (by decide) ?_
        refine a_jn 45 (fun a45 : Unit => [(0, .ref (ad 0)), (1, .int x1), (2, .int x2), (3, .int x3)]) (fun a45 : Unit => []) (fun a45 : Unit => M) hf (fun a45 hf => ?_) (fun k45 hk45 hf => ?_)
        · refine a_aload_n (pc := 45) C dX8_sheet_45 0 rfl ?_
          refine a_getR (pc := 46) C dX8_sheet_46 fl_X8_77 tm_0 rfl ?_
          refine a_iload_n (pc := 49) C dX8_sheet_49 1 rfl ?_
          refine a_iload_n (pc := 50) C dX8_sheet_50 2 rfl ?_
          refine a_iast (pc := 51) C dX8_sheet_51 tm_20 hf (fun M5 hf => ?_)
          refine a_aload_n (pc := 52) C dX8_sheet_52 0 rfl ?_
          refine a_getR (pc := 53) C dX8_sheet_53 fl_X8_80 tm_0 rfl ?_
          refine a_iload_n (pc := 56) C dX8_sheet_56 1 rfl ?_
          refine a_iload_n (pc := 57) C dX8_sheet_57 2 rfl ?_
          refine a_iconst (pc := 58) (v := (-1)) C dX8_sheet_58 (by decide) ?_
          refine a_jn 67 (fun a67 : Int32 => [(0, .ref (ad 0)), (1, .int x1)]) (fun a67 : Int32 => [.int a67, .int x1, .ref (ad 21)]) (fun a67 : Int32 => M5) hf (fun a67 hf => ?_) (fun k67 hk67 hf => ?_)
          · refine a_iast (pc := 67) C dX8_sheet_67 tm_21 hf (fun M6 hf => ?_)
            refine a_iconst (pc := 68) (v := 0) C dX8_sheet_68 (by decide) ?_
            refine a_istore (pc := 69) [(4, .int (0 : Int32)), (0, .ref (ad 0)), (1, .int x1)] C dX8_sheet_69 (by decide) rfl ?_
            refine a_sub [1, 2, 0] rfl ?_
            refine a_lp 71 (fun a71 : Int32 × Mem => [(0, .ref (ad 0)), (1, .int x1), (4, .int a71.1)]) (fun a71 : Int32 × Mem => []) (fun a71 : Int32 × Mem => a71.2) (fun k71 a71 hk71 hf => ?_) N ((0 : Int32), M6) hf
            refine a_iload (pc := 71) C dX8_sheet_71 2 rfl ?_
            refine a_bipush (pc := 73) (v := 40) C dX8_sheet_73 (by decide) ?_
            refine a_icmp_ge (pc := 75) 97 C dX8_sheet_75 (by decide) hf (fun hf => ?_) (fun hf => ?_)
            · refine a_iconst (pc := 97) (v := 1) C dX8_sheet_97 (by decide) ?_
              exact a_iret (pc := 98) C dX8_sheet_98 (so_1 hf) (so_2 hf)
            · refine a_aload_n (pc := 78) C dX8_sheet_78 0 rfl ?_
              refine a_getR (pc := 79) C dX8_sheet_79 fl_X8_83 tm_0 rfl ?_
              refine a_bipush (pc := 82) (v := 40) C dX8_sheet_82 (by decide) ?_
              refine a_iload_n (pc := 84) C dX8_sheet_84 1 rfl ?_
              refine a_imul (pc := 85) C dX8_sheet_85 ?_
              refine a_iload (pc := 86) C dX8_sheet_86 2 rfl ?_
              refine a_iadd (pc := 88) C dX8_sheet_88 ?_
              refine a_lconst (pc := 89) (v := 0) C dX8_sheet_89 (by decide) ?_
              refine a_last (pc := 90) C dX8_sheet_90 tm_22 hf (fun M7 hf => ?_)
              refine a_iinc (pc := 91) (v := 1) (fun v8 => [(4, .int v8), (0, .ref (ad 0)), (1, .int x1)]) C dX8_sheet_91 2 rfl (by decide) (by decide) (fun _ => rfl) hf (fun v8 hf => ?_)
              refine a_goto (pc := 94) 71 C dX8_sheet_94 (by decide) ?_
              exact a_sub [1, 2, 0] rfl (hk71 (v8, M7) hf)
          · refine a_icmp_ne (pc := 59) 66 C dX8_sheet_59 (by decide) hf (fun hf => ?_) (fun hf => ?_)
            · refine a_iload_n (pc := 66) C dX8_sheet_66 3 rfl ?_
              exact a_sub [0, 1] rfl (hk67 x3 hf)
            · refine a_iconst (pc := 62) (v := 0) C dX8_sheet_62 (by decide) ?_
              refine a_goto (pc := 63) 67 C dX8_sheet_63 (by decide) ?_
              exact a_sub [0, 1] rfl (hk67 (0 : Int32) hf)
        · refine a_icmp_eq (pc := 35) 45 C dX8_sheet_35 (by decide) hf (fun hf => ?_) (fun hf => ?_)
          · exact a_sub [0, 1, 2, 3] rfl (hk45 () hf)
          · refine a_iload_n (pc := 38) C dX8_sheet_38 3 rfl ?_
            refine a_if_ge (pc := 39) 45 C dX8_sheet_39 (by decide) hf (fun hf => ?_) (fun hf => ?_)
            · exact a_sub [0, 1, 2, 3] rfl (hk45 () hf)
            · refine a_bipush (pc := 42) (v := (-14)) C dX8_sheet_42 (by decide) ?_
              exact a_iret (pc := 44) C dX8_sheet_44 (so_1 hf) (so_2 hf)
      · refine a_icmp_eq (pc := 21) 33 C dX8_sheet_21 (by decide) hf (fun hf => ?_) (fun hf => ?_)
        · exact a_sub [0, 1, 2, 3] rfl (hk33 () hf)
        · refine a_iload_n (pc := 24) C dX8_sheet_24 3 rfl ?_
          refine a_bipush (pc := 25) (v := 40) C dX8_sheet_25 (by decide) ?_
          refine a_icmp_le (pc := 27) 33 C dX8_sheet_27 (by decide) hf (fun hf => ?_) (fun hf => ?_)
          · exact a_sub [0, 1, 2, 3] rfl (hk33 () hf)
          · refine a_bipush (pc := 30) (v := (-2)) C dX8_sheet_30 (by decide) ?_
            exact a_iret (pc := 32) C dX8_sheet_32 (so_1 hf) (so_2 hf)
theorem dX8_wrongAt_0 : decode cX8_wrongAt 0 = .ok (.iload_n 1, 1) := by decide +kernel
theorem dX8_wrongAt_1 : decode cX8_wrongAt 1 = .ok (.invokestatic 245, 3) := by decide +kernel
theorem dX8_wrongAt_4 : decode cX8_wrongAt 4 = .ok (.ifCond .ne 8, 3) := by decide +kernel
theorem dX8_wrongAt_7 : decode cX8_wrongAt 7 = .ok (.bipush (-2), 2) := by decide +kernel
theorem dX8_wrongAt_9 : decode cX8_wrongAt 9 = .ok (.goto 42, 3) := by decide +kernel
theorem dX8_wrongAt_12 : decode cX8_wrongAt 12 = .ok (.aload_n 0, 1) := by decide +kernel
theorem dX8_wrongAt_13 : decode cX8_wrongAt 13 = .ok (.getfield 77, 3) := by decide +kernel
theorem dX8_wrongAt_16 : decode cX8_wrongAt 16 = .ok (.iload_n 1, 1) := by decide +kernel
theorem dX8_wrongAt_17 : decode cX8_wrongAt 17 = .ok (.iaload, 1) := by decide +kernel
theorem dX8_wrongAt_18 : decode cX8_wrongAt 18 = .ok (.iconst (-1), 1) := by decide +kernel
theorem dX8_wrongAt_19 : decode cX8_wrongAt 19 = .ok (.if_icmp .ne 8, 3) := by decide +kernel
theorem dX8_wrongAt_22 : decode cX8_wrongAt 22 = .ok (.bipush (-11), 2) := by decide +kernel
theorem dX8_wrongAt_24 : decode cX8_wrongAt 24 = .ok (.goto 27, 3) := by decide +kernel
theorem dX8_wrongAt_27 : decode cX8_wrongAt 27 = .ok (.iload_n 2, 1) := by decide +kernel
theorem dX8_wrongAt_28 : decode cX8_wrongAt 28 = .ok (.i2l, 1) := by decide +kernel
theorem dX8_wrongAt_29 : decode cX8_wrongAt 29 = .ok (.lconst 0, 1) := by decide +kernel
theorem dX8_wrongAt_30 : decode cX8_wrongAt 30 = .ok (.aload_n 0, 1) := by decide +kernel
theorem dX8_wrongAt_31 : decode cX8_wrongAt 31 = .ok (.getfield 80, 3) := by decide +kernel
theorem dX8_wrongAt_34 : decode cX8_wrongAt 34 = .ok (.iload_n 1, 1) := by decide +kernel
theorem dX8_wrongAt_35 : decode cX8_wrongAt 35 = .ok (.iaload, 1) := by decide +kernel
theorem dX8_wrongAt_36 : decode cX8_wrongAt 36 = .ok (.iconst 1, 1) := by decide +kernel
theorem dX8_wrongAt_37 : decode cX8_wrongAt 37 = .ok (.isub, 1) := by decide +kernel
theorem dX8_wrongAt_38 : decode cX8_wrongAt 38 = .ok (.i2l, 1) := by decide +kernel
theorem dX8_wrongAt_39 : decode cX8_wrongAt 39 = .ok (.invokestatic 98, 3) := by decide +kernel
theorem dX8_wrongAt_42 : decode cX8_wrongAt 42 = .ok (.ifCond .eq 7, 3) := by decide +kernel
theorem dX8_wrongAt_45 : decode cX8_wrongAt 45 = .ok (.iconst 0, 1) := by decide +kernel
theorem dX8_wrongAt_46 : decode cX8_wrongAt 46 = .ok (.goto 5, 3) := by decide +kernel
theorem dX8_wrongAt_49 : decode cX8_wrongAt 49 = .ok (.bipush (-12), 2) := by decide +kernel
theorem dX8_wrongAt_51 : decode cX8_wrongAt 51 = .ok (.ireturn, 1) := by decide +kernel
def f_X8_wrongAt (N : Nat) (x1 : Int32) (x2 : Int32) (M : Mem) : Option (Int32) := bd (f_X8_isSheet N x1 M) (fun v1 => if v1 = 0 then (some (-2 : Int32)) else (ck (inb x1 4) (if (M.1 20 x1.toNatClampNeg) = (-1 : Int32) then (some (-11 : Int32)) else (ck (inb x1 4) (bd (f_X8_in N x2.toInt64 (0 : Int64) (((M.1 21 x1.toNatClampNeg) - (1 : Int32)).toInt64) M) (fun v3 => if v3 = 0 then (some (-12 : Int32)) else (some (0 : Int32))))))))
set_option maxRecDepth 100000 in
set_option maxHeartbeats 4000000 in
theorem c_X8_wrongAt {l : Launch} {D : va_G} {ac : Nat → ClassId} {A : Nat → Prop} {ad : Nat → Nat} {rest : va_W} (N : Nat) (x1 : Int32) (x2 : Int32)  (M : Mem) (r0 : Int32) (hf : f_X8_wrongAt N x1 x2 M = some r0) : CtI l D ac A tabM ad rest yX8_wrongAt cX8_wrongAt 3 .int 3 [.ref (ad 0), .int x1, .int x2] M r0 M := by
  refine ct_ofI (own := RX8) (by decide +kernel) rfl (Nat.le_of_ble_eq_true rfl) ?_
  intro p e s m args below meth c C
  unfold f_X8_wrongAt at hf
  refine a_L (L' := [(0, .ref (ad 0)), (1, .int x1), (2, .int x2)]) rfl ?_
  refine a_iload_n (pc := 0) C dX8_wrongAt_0 1 rfl ?_
  refine a_callS_Ir (pc := 1) (d' := 2) C dX8_wrongAt_1 ml_X8_245 mc_X8_isSheet ms_X8_isSheet [.int x1] rfl (Nat.le_of_ble_eq_true rfl) (Nat.le_of_ble_eq_true rfl) rfl (Nat.le_of_ble_eq_true rfl) (fun r h => c_X8_isSheet N x1  _  r h) hf (fun v1 hf => ?_)
  refine a_if_ne (pc := 4) 12 C dX8_wrongAt_4 (by decide) hf (fun hf => ?_) (fun hf => ?_)
  · refine a_aload_n (pc := 12) C dX8_wrongAt_12 0 rfl ?_
    refine a_getR (pc := 13) C dX8_wrongAt_13 fl_X8_77 tm_0 rfl ?_
    refine a_iload_n (pc := 16) C dX8_wrongAt_16 1 rfl ?_
    refine a_iald (pc := 17) C dX8_wrongAt_17 tm_20 hf (fun hf => ?_)
    refine a_iconst (pc := 18) (v := (-1)) C dX8_wrongAt_18 (by decide) ?_
    refine a_icmp_ne (pc := 19) 27 C dX8_wrongAt_19 (by decide) hf (fun hf => ?_) (fun hf => ?_)
    · refine a_iload_n (pc := 27) C dX8_wrongAt_27 2 rfl ?_
      refine a_i2l (pc := 28) C dX8_wrongAt_28 ?_
      refine a_lconst (pc := 29) (v := 0) C dX8_wrongAt_29 (by decide) ?_
      refine a_aload_n (pc := 30) C dX8_wrongAt_30 0 rfl ?_
      refine a_getR (pc := 31) C dX8_wrongAt_31 fl_X8_80 tm_0 rfl ?_
      refine a_iload_n (pc := 34) C dX8_wrongAt_34 1 rfl ?_
      refine a_iald (pc := 35) C dX8_wrongAt_35 tm_21 hf (fun hf => ?_)
      refine a_iconst (pc := 36) (v := 1) C dX8_wrongAt_36 (by decide) ?_
      refine a_isub (pc := 37) C dX8_wrongAt_37 ?_
      refine a_i2l (pc := 38) C dX8_wrongAt_38 ?_
      refine a_callS_Ir (pc := 39) (d' := 1) C dX8_wrongAt_39 ml_X8_98 mc_X8_in ms_X8_in [.long x2.toInt64, .long (0 : Int64), .long (((M.1 21 x1.toNatClampNeg) - (1 : Int32)).toInt64)] rfl (Nat.le_of_ble_eq_true rfl) (Nat.le_of_ble_eq_true rfl) rfl (Nat.le_of_ble_eq_true rfl) (fun r h => c_X8_in N x2.toInt64 (0 : Int64) (((M.1 21 x1.toNatClampNeg) - (1 : Int32)).toInt64)  _  r h) hf (fun v3 hf => ?_)
      refine a_if_eq (pc := 42) 49 C dX8_wrongAt_42 (by decide) hf (fun hf => ?_) (fun hf => ?_)
      · refine a_bipush (pc := 49) (v := (-12)) C dX8_wrongAt_49 (by decide) ?_
        exact a_iret (pc := 51) C dX8_wrongAt_51 (Option.some.inj hf) rfl
      · refine a_iconst (pc := 45) (v := 0) C dX8_wrongAt_45 (by decide) ?_
        refine a_goto (pc := 46) 51 C dX8_wrongAt_46 (by decide) ?_
        exact a_iret (pc := 51) C dX8_wrongAt_51 (Option.some.inj hf) rfl
    · refine a_bipush (pc := 22) (v := (-11)) C dX8_wrongAt_22 (by decide) ?_
      refine a_goto (pc := 24) 51 C dX8_wrongAt_24 (by decide) ?_
      exact a_iret (pc := 51) C dX8_wrongAt_51 (Option.some.inj hf) rfl
  · refine a_bipush (pc := 7) (v := (-2)) C dX8_wrongAt_7 (by decide) ?_
    refine a_goto (pc := 9) 51 C dX8_wrongAt_9 (by decide) ?_
    exact a_iret (pc := 51) C dX8_wrongAt_51 (Option.some.inj hf) rfl
theorem dX8_copy_0 : decode cX8_copy 0 = .ok (.iload_n 1, 1) := by decide +kernel
theorem dX8_copy_1 : decode cX8_copy 1 = .ok (.invokestatic 245, 3) := by decide +kernel
theorem dX8_copy_4 : decode cX8_copy 4 = .ok (.ifCond .eq 10, 3) := by decide +kernel
theorem dX8_copy_7 : decode cX8_copy 7 = .ok (.iload_n 3, 1) := by decide +kernel
theorem dX8_copy_8 : decode cX8_copy 8 = .ok (.invokestatic 245, 3) := by decide +kernel
theorem dX8_copy_11 : decode cX8_copy 11 = .ok (.ifCond .ne 6, 3) := by decide +kernel
theorem dX8_copy_14 : decode cX8_copy 14 = .ok (.bipush (-2), 2) := by decide +kernel
theorem dX8_copy_16 : decode cX8_copy 16 = .ok (.ireturn, 1) := by decide +kernel
theorem dX8_copy_17 : decode cX8_copy 17 = .ok (.aload_n 0, 1) := by decide +kernel
theorem dX8_copy_18 : decode cX8_copy 18 = .ok (.getfield 77, 3) := by decide +kernel
theorem dX8_copy_21 : decode cX8_copy 21 = .ok (.iload_n 1, 1) := by decide +kernel
theorem dX8_copy_22 : decode cX8_copy 22 = .ok (.iaload, 1) := by decide +kernel
theorem dX8_copy_23 : decode cX8_copy 23 = .ok (.iconst (-1), 1) := by decide +kernel
theorem dX8_copy_24 : decode cX8_copy 24 = .ok (.if_icmp .eq 13, 3) := by decide +kernel
theorem dX8_copy_27 : decode cX8_copy 27 = .ok (.aload_n 0, 1) := by decide +kernel
theorem dX8_copy_28 : decode cX8_copy 28 = .ok (.getfield 77, 3) := by decide +kernel
theorem dX8_copy_31 : decode cX8_copy 31 = .ok (.iload_n 3, 1) := by decide +kernel
theorem dX8_copy_32 : decode cX8_copy 32 = .ok (.iaload, 1) := by decide +kernel
theorem dX8_copy_33 : decode cX8_copy 33 = .ok (.iconst (-1), 1) := by decide +kernel
theorem dX8_copy_34 : decode cX8_copy 34 = .ok (.if_icmp .ne 6, 3) := by decide +kernel
theorem dX8_copy_37 : decode cX8_copy 37 = .ok (.bipush (-11), 2) := by decide +kernel
theorem dX8_copy_39 : decode cX8_copy 39 = .ok (.ireturn, 1) := by decide +kernel
theorem dX8_copy_40 : decode cX8_copy 40 = .ok (.aload_n 0, 1) := by decide +kernel
theorem dX8_copy_41 : decode cX8_copy 41 = .ok (.getfield 77, 3) := by decide +kernel
theorem dX8_copy_44 : decode cX8_copy 44 = .ok (.iload_n 1, 1) := by decide +kernel
theorem dX8_copy_45 : decode cX8_copy 45 = .ok (.iaload, 1) := by decide +kernel
theorem dX8_copy_46 : decode cX8_copy 46 = .ok (.aload_n 0, 1) := by decide +kernel
theorem dX8_copy_47 : decode cX8_copy 47 = .ok (.getfield 77, 3) := by decide +kernel
theorem dX8_copy_50 : decode cX8_copy 50 = .ok (.iload_n 3, 1) := by decide +kernel
theorem dX8_copy_51 : decode cX8_copy 51 = .ok (.iaload, 1) := by decide +kernel
theorem dX8_copy_52 : decode cX8_copy 52 = .ok (.if_icmp .eq 6, 3) := by decide +kernel
theorem dX8_copy_55 : decode cX8_copy 55 = .ok (.bipush (-13), 2) := by decide +kernel
theorem dX8_copy_57 : decode cX8_copy 57 = .ok (.ireturn, 1) := by decide +kernel
theorem dX8_copy_58 : decode cX8_copy 58 = .ok (.iload 5, 2) := by decide +kernel
theorem dX8_copy_60 : decode cX8_copy 60 = .ok (.ifCond .lt 39, 3) := by decide +kernel
theorem dX8_copy_63 : decode cX8_copy 63 = .ok (.iload_n 2, 1) := by decide +kernel
theorem dX8_copy_64 : decode cX8_copy 64 = .ok (.ifCond .lt 35, 3) := by decide +kernel
theorem dX8_copy_67 : decode cX8_copy 67 = .ok (.iload 4, 2) := by decide +kernel
theorem dX8_copy_69 : decode cX8_copy 69 = .ok (.ifCond .lt 30, 3) := by decide +kernel
theorem dX8_copy_72 : decode cX8_copy 72 = .ok (.iload_n 2, 1) := by decide +kernel
theorem dX8_copy_73 : decode cX8_copy 73 = .ok (.aload_n 0, 1) := by decide +kernel
theorem dX8_copy_74 : decode cX8_copy 74 = .ok (.getfield 80, 3) := by decide +kernel
theorem dX8_copy_77 : decode cX8_copy 77 = .ok (.iload_n 1, 1) := by decide +kernel
theorem dX8_copy_78 : decode cX8_copy 78 = .ok (.iaload, 1) := by decide +kernel
theorem dX8_copy_79 : decode cX8_copy 79 = .ok (.iload 5, 2) := by decide +kernel
theorem dX8_copy_81 : decode cX8_copy 81 = .ok (.isub, 1) := by decide +kernel
theorem dX8_copy_82 : decode cX8_copy 82 = .ok (.if_icmp .gt 17, 3) := by decide +kernel
theorem dX8_copy_85 : decode cX8_copy 85 = .ok (.iload 4, 2) := by decide +kernel
theorem dX8_copy_87 : decode cX8_copy 87 = .ok (.aload_n 0, 1) := by decide +kernel
theorem dX8_copy_88 : decode cX8_copy 88 = .ok (.getfield 80, 3) := by decide +kernel
theorem dX8_copy_91 : decode cX8_copy 91 = .ok (.iload_n 3, 1) := by decide +kernel
theorem dX8_copy_92 : decode cX8_copy 92 = .ok (.iaload, 1) := by decide +kernel
theorem dX8_copy_93 : decode cX8_copy 93 = .ok (.iload 5, 2) := by decide +kernel
theorem dX8_copy_95 : decode cX8_copy 95 = .ok (.isub, 1) := by decide +kernel
theorem dX8_copy_96 : decode cX8_copy 96 = .ok (.if_icmp .le 6, 3) := by decide +kernel
theorem dX8_copy_99 : decode cX8_copy 99 = .ok (.bipush (-12), 2) := by decide +kernel
theorem dX8_copy_101 : decode cX8_copy 101 = .ok (.ireturn, 1) := by decide +kernel
theorem dX8_copy_102 : decode cX8_copy 102 = .ok (.bipush 40, 2) := by decide +kernel
theorem dX8_copy_104 : decode cX8_copy 104 = .ok (.iload_n 1, 1) := by decide +kernel
theorem dX8_copy_105 : decode cX8_copy 105 = .ok (.imul, 1) := by decide +kernel
theorem dX8_copy_106 : decode cX8_copy 106 = .ok (.iload_n 2, 1) := by decide +kernel
theorem dX8_copy_107 : decode cX8_copy 107 = .ok (.iadd, 1) := by decide +kernel
theorem dX8_copy_108 : decode cX8_copy 108 = .ok (.bipush 40, 2) := by decide +kernel
theorem dX8_copy_110 : decode cX8_copy 110 = .ok (.iload_n 3, 1) := by decide +kernel
theorem dX8_copy_111 : decode cX8_copy 111 = .ok (.imul, 1) := by decide +kernel
theorem dX8_copy_112 : decode cX8_copy 112 = .ok (.iload 4, 2) := by decide +kernel
theorem dX8_copy_114 : decode cX8_copy 114 = .ok (.iadd, 1) := by decide +kernel
theorem dX8_copy_115 : decode cX8_copy 115 = .ok (.if_icmp .ge 7, 3) := by decide +kernel
theorem dX8_copy_118 : decode cX8_copy 118 = .ok (.iconst 1, 1) := by decide +kernel
theorem dX8_copy_119 : decode cX8_copy 119 = .ok (.goto 4, 3) := by decide +kernel
theorem dX8_copy_122 : decode cX8_copy 122 = .ok (.iconst 0, 1) := by decide +kernel
theorem dX8_copy_123 : decode cX8_copy 123 = .ok (.istore 6, 2) := by decide +kernel
theorem dX8_copy_125 : decode cX8_copy 125 = .ok (.iconst 0, 1) := by decide +kernel
theorem dX8_copy_126 : decode cX8_copy 126 = .ok (.istore 7, 2) := by decide +kernel
theorem dX8_copy_128 : decode cX8_copy 128 = .ok (.iload 7, 2) := by decide +kernel
theorem dX8_copy_130 : decode cX8_copy 130 = .ok (.iload 5, 2) := by decide +kernel
theorem dX8_copy_132 : decode cX8_copy 132 = .ok (.if_icmp .ge 57, 3) := by decide +kernel
theorem dX8_copy_135 : decode cX8_copy 135 = .ok (.iload 6, 2) := by decide +kernel
theorem dX8_copy_137 : decode cX8_copy 137 = .ok (.ifCond .eq 13, 3) := by decide +kernel
theorem dX8_copy_140 : decode cX8_copy 140 = .ok (.iload 5, 2) := by decide +kernel
theorem dX8_copy_142 : decode cX8_copy 142 = .ok (.iconst 1, 1) := by decide +kernel
theorem dX8_copy_143 : decode cX8_copy 143 = .ok (.isub, 1) := by decide +kernel
theorem dX8_copy_144 : decode cX8_copy 144 = .ok (.iload 7, 2) := by decide +kernel
theorem dX8_copy_146 : decode cX8_copy 146 = .ok (.isub, 1) := by decide +kernel
theorem dX8_copy_147 : decode cX8_copy 147 = .ok (.goto 5, 3) := by decide +kernel
theorem dX8_copy_150 : decode cX8_copy 150 = .ok (.iload 7, 2) := by decide +kernel
theorem dX8_copy_152 : decode cX8_copy 152 = .ok (.istore 8, 2) := by decide +kernel
theorem dX8_copy_154 : decode cX8_copy 154 = .ok (.aload_n 0, 1) := by decide +kernel
theorem dX8_copy_155 : decode cX8_copy 155 = .ok (.getfield 83, 3) := by decide +kernel
theorem dX8_copy_158 : decode cX8_copy 158 = .ok (.bipush 40, 2) := by decide +kernel
theorem dX8_copy_160 : decode cX8_copy 160 = .ok (.iload_n 3, 1) := by decide +kernel
theorem dX8_copy_161 : decode cX8_copy 161 = .ok (.imul, 1) := by decide +kernel
theorem dX8_copy_162 : decode cX8_copy 162 = .ok (.iload 4, 2) := by decide +kernel
theorem dX8_copy_164 : decode cX8_copy 164 = .ok (.iadd, 1) := by decide +kernel
theorem dX8_copy_165 : decode cX8_copy 165 = .ok (.iload 8, 2) := by decide +kernel
theorem dX8_copy_167 : decode cX8_copy 167 = .ok (.iadd, 1) := by decide +kernel
theorem dX8_copy_168 : decode cX8_copy 168 = .ok (.aload_n 0, 1) := by decide +kernel
theorem dX8_copy_169 : decode cX8_copy 169 = .ok (.getfield 83, 3) := by decide +kernel
theorem dX8_copy_172 : decode cX8_copy 172 = .ok (.bipush 40, 2) := by decide +kernel
theorem dX8_copy_174 : decode cX8_copy 174 = .ok (.iload_n 1, 1) := by decide +kernel
theorem dX8_copy_175 : decode cX8_copy 175 = .ok (.imul, 1) := by decide +kernel
theorem dX8_copy_176 : decode cX8_copy 176 = .ok (.iload_n 2, 1) := by decide +kernel
theorem dX8_copy_177 : decode cX8_copy 177 = .ok (.iadd, 1) := by decide +kernel
theorem dX8_copy_178 : decode cX8_copy 178 = .ok (.iload 8, 2) := by decide +kernel
theorem dX8_copy_180 : decode cX8_copy 180 = .ok (.iadd, 1) := by decide +kernel
theorem dX8_copy_181 : decode cX8_copy 181 = .ok (.laload, 1) := by decide +kernel
theorem dX8_copy_182 : decode cX8_copy 182 = .ok (.lastore, 1) := by decide +kernel
theorem dX8_copy_183 : decode cX8_copy 183 = .ok (.iinc 7 1, 3) := by decide +kernel
theorem dX8_copy_186 : decode cX8_copy 186 = .ok (.goto (-58), 3) := by decide +kernel
theorem dX8_copy_189 : decode cX8_copy 189 = .ok (.iload 5, 2) := by decide +kernel
theorem dX8_copy_191 : decode cX8_copy 191 = .ok (.ireturn, 1) := by decide +kernel
def f_X8_copy (N : Nat) (x1 : Int32) (x2 : Int32) (x3 : Int32) (x4 : Int32) (x5 : Int32) (M : Mem) : Option (Int32 × Mem) := bd (f_X8_isSheet N x1 M) (fun v1 => if v1 = 0 then (some ((-2 : Int32), M)) else (bd (f_X8_isSheet N x3 M) (fun v3 => if v3 = 0 then (some ((-2 : Int32), M)) else (ck (inb x1 4) (if (M.1 20 x1.toNatClampNeg) = (-1 : Int32) then (some ((-11 : Int32), M)) else (ck (inb x3 4) (if (M.1 20 x3.toNatClampNeg) = (-1 : Int32) then (some ((-11 : Int32), M)) else (ck (inb x1 4) (ck (inb x3 4) (if (M.1 20 x1.toNatClampNeg) = (M.1 20 x3.toNatClampNeg) then (if x5 < 0 then (some ((-12 : Int32), M)) else (if x2 < 0 then (some ((-12 : Int32), M)) else (if x4 < 0 then (some ((-12 : Int32), M)) else (ck (inb x1 4) (if ((M.1 21 x1.toNatClampNeg) - x5) < x2 then (some ((-12 : Int32), M)) else (ck (inb x3 4) (if x4 ≤ ((M.1 21 x3.toNatClampNeg) - x5) then (jn (fun (a123 : Int32) => lp (fun (k128 : (Int32 × Mem) → Option (Int32 × Mem)) (a128 : Int32 × Mem) => if x5 ≤ a128.1 then (some (x5, a128.2)) else (jn (fun (a152 : Int32) => ck (inb ((((40 : Int32) * x1) + x2) + a152) 160) (ck (inb ((((40 : Int32) * x3) + x4) + a152) 160) (nm (setJ a128.2 22 ((((40 : Int32) * x3) + x4) + a152).toNatClampNeg (a128.2.2 22 ((((40 : Int32) * x1) + x2) + a152).toNatClampNeg)) (fun M5 => nm (a128.1 + (1 : Int32)) (fun v6 => k128 (v6, M5)))))) (fun (k152 : Int32 → Option (Int32 × Mem)) => if a123 = 0 then (k152 a128.1) else (k152 ((x5 - (1 : Int32)) - a128.1))))) N ((0 : Int32), M)) (fun (k123 : Int32 → Option (Int32 × Mem)) => if (((40 : Int32) * x3) + x4) ≤ (((40 : Int32) * x1) + x2) then (k123 (0 : Int32)) else (k123 (1 : Int32)))) else (some ((-12 : Int32), M))))))))) else (some ((-13 : Int32), M))))))))))))
set_option maxRecDepth 100000 in
set_option maxHeartbeats 4000000 in
theorem c_X8_copy {l : Launch} {D : va_G} {ac : Nat → ClassId} {A : Nat → Prop} {ad : Nat → Nat} {rest : va_W} (N : Nat) (x1 : Int32) (x2 : Int32) (x3 : Int32) (x4 : Int32) (x5 : Int32)  (M : Mem) (r0 : Int32) (M0 : Mem) (hf : f_X8_copy N x1 x2 x3 x4 x5 M = some (r0, M0)) : CtI l D ac A tabM ad rest yX8_copy cX8_copy 9 .int 3 [.ref (ad 0), .int x1, .int x2, .int x3, .int x4, .int x5] M r0 M0 := by
  refine ct_ofI (own := RX8) (by decide +kernel) rfl (Nat.le_of_ble_eq_true rfl) ?_
  intro p e s m args below meth c C
  unfold f_X8_copy at hf
  refine a_L (L' := [(0, .ref (ad 0)), (1, .int x1), (2, .int x2), (3, .int x3), (4, .int x4), (5, .int x5)]) rfl ?_
  refine a_iload_n (pc := 0) C dX8_copy_0 1 rfl ?_
  refine a_callS_Ir (pc := 1) (d' := 2) C dX8_copy_1 ml_X8_245 mc_X8_isSheet ms_X8_isSheet [.int x1] rfl (Nat.le_of_ble_eq_true rfl) (Nat.le_of_ble_eq_true rfl) rfl (Nat.le_of_ble_eq_true rfl) (fun r h => c_X8_isSheet N x1  _  r h) hf (fun v1 hf => ?_)
  refine a_if_eq (pc := 4) 14 C dX8_copy_4 (by decide) hf (fun hf => ?_) (fun hf => ?_)
  · refine a_bipush (pc := 14) (v := (-2)) C dX8_copy_14 (by decide) ?_
    exact a_iret (pc := 16) C dX8_copy_16 (so_1 hf) (so_2 hf)
  · refine a_iload_n (pc := 7) C dX8_copy_7 3 rfl ?_
    refine a_callS_Ir (pc := 8) (d' := 2) C dX8_copy_8 ml_X8_245 mc_X8_isSheet ms_X8_isSheet [.int x3] rfl (Nat.le_of_ble_eq_true rfl) (Nat.le_of_ble_eq_true rfl) rfl (Nat.le_of_ble_eq_true rfl) (fun r h => c_X8_isSheet N x3  _  r h) hf (fun v3 hf => ?_)
    refine a_if_ne (pc := 11) 17 C dX8_copy_11 (by decide) hf (fun hf => ?_) (fun hf => ?_)
    · refine a_aload_n (pc := 17) C dX8_copy_17 0 rfl ?_
      refine a_getR (pc := 18) C dX8_copy_18 fl_X8_77 tm_0 rfl ?_
      refine a_iload_n (pc := 21) C dX8_copy_21 1 rfl ?_
      refine a_iald (pc := 22) C dX8_copy_22 tm_20 hf (fun hf => ?_)
      refine a_iconst (pc := 23) (v := (-1)) C dX8_copy_23 (by decide) ?_
      refine a_icmp_eq (pc := 24) 37 C dX8_copy_24 (by decide) hf (fun hf => ?_) (fun hf => ?_)
      · refine a_bipush (pc := 37) (v := (-11)) C dX8_copy_37 (by decide) ?_
        exact a_iret (pc := 39) C dX8_copy_39 (so_1 hf) (so_2 hf)
      · refine a_aload_n (pc := 27) C dX8_copy_27 0 rfl ?_
        refine a_getR (pc := 28) C dX8_copy_28 fl_X8_77 tm_0 rfl ?_
        refine a_iload_n (pc := 31) C dX8_copy_31 3 rfl ?_
        refine a_iald (pc := 32) C dX8_copy_32 tm_20 hf (fun hf => ?_)
        refine a_iconst (pc := 33) (v := (-1)) C dX8_copy_33 (by decide) ?_
        refine a_icmp_ne (pc := 34) 40 C dX8_copy_34 (by decide) hf (fun hf => ?_) (fun hf => ?_)
        · refine a_aload_n (pc := 40) C dX8_copy_40 0 rfl ?_
          refine a_getR (pc := 41) C dX8_copy_41 fl_X8_77 tm_0 rfl ?_
          refine a_iload_n (pc := 44) C dX8_copy_44 1 rfl ?_
          refine a_iald (pc := 45) C dX8_copy_45 tm_20 hf (fun hf => ?_)
          refine a_aload_n (pc := 46) C dX8_copy_46 0 rfl ?_
          refine a_getR (pc := 47) C dX8_copy_47 fl_X8_77 tm_0 rfl ?_
          refine a_iload_n (pc := 50) C dX8_copy_50 3 rfl ?_
          refine a_iald (pc := 51) C dX8_copy_51 tm_20 hf (fun hf => ?_)
          refine a_icmp_eq (pc := 52) 58 C dX8_copy_52 (by decide) hf (fun hf => ?_) (fun hf => ?_)
          · refine a_iload (pc := 58) C dX8_copy_58 5 rfl ?_
            refine a_if_lt (pc := 60) 99 C dX8_copy_60 (by decide) hf (fun hf => ?_) (fun hf => ?_)
            · refine a_bipush (pc := 99) (v := (-12)) C dX8_copy_99 (by decide) ?_
              exact a_iret (pc := 101) C dX8_copy_101 (so_1 hf) (so_2 hf)
            · refine a_iload_n (pc := 63) C dX8_copy_63 2 rfl ?_
              refine a_if_lt (pc := 64) 99 C dX8_copy_64 (by decide) hf (fun hf => ?_) (fun hf => ?_)
              · refine a_bipush (pc := 99) (v := (-12)) C dX8_copy_99 (by decide) ?_
                exact a_iret (pc := 101) C dX8_copy_101 (so_1 hf) (so_2 hf)
              · refine a_iload (pc := 67) C dX8_copy_67 4 rfl ?_
                refine a_if_lt (pc := 69) 99 C dX8_copy_69 (by decide) hf (fun hf => ?_) (fun hf => ?_)
                · refine a_bipush (pc := 99) (v := (-12)) C dX8_copy_99 (by decide) ?_
                  exact a_iret (pc := 101) C dX8_copy_101 (so_1 hf) (so_2 hf)
                · refine a_iload_n (pc := 72) C dX8_copy_72 2 rfl ?_
                  refine a_aload_n (pc := 73) C dX8_copy_73 0 rfl ?_
                  refine a_getR (pc := 74) C dX8_copy_74 fl_X8_80 tm_0 rfl ?_
                  refine a_iload_n (pc := 77) C dX8_copy_77 1 rfl ?_
                  refine a_iald (pc := 78) C dX8_copy_78 tm_21 hf (fun hf => ?_)
                  refine a_iload (pc := 79) C dX8_copy_79 5 rfl ?_
                  refine a_isub (pc := 81) C dX8_copy_81 ?_
                  refine a_icmp_gt (pc := 82) 99 C dX8_copy_82 (by decide) hf (fun hf => ?_) (fun hf => ?_)
                  · refine a_bipush (pc := 99) (v := (-12)) C dX8_copy_99 (by decide) ?_
                    exact a_iret (pc := 101) C dX8_copy_101 (so_1 hf) (so_2 hf)
                  · refine a_iload (pc := 85) C dX8_copy_85 4 rfl ?_
                    refine a_aload_n (pc := 87) C dX8_copy_87 0 rfl ?_
                    refine a_getR (pc := 88) C dX8_copy_88 fl_X8_80 tm_0 rfl ?_
                    refine a_iload_n (pc := 91) C dX8_copy_91 3 rfl ?_
                    refine a_iald (pc := 92) C dX8_copy_92 tm_21 hf (fun hf => ?_)
                    refine a_iload (pc := 93) C dX8_copy_93 5 rfl ?_
                    refine a_isub (pc := 95) C dX8_copy_95 ?_
                    refine a_icmp_le (pc := 96) 102 C dX8_copy_96 (by decide) hf (fun hf => ?_) (fun hf => ?_)
                    · refine a_bipush (pc := 102) (v := 40) C dX8_copy_102 (by decide) ?_
                      refine a_iload_n (pc := 104) C dX8_copy_104 1 rfl ?_
                      refine a_imul (pc := 105) C dX8_copy_105 ?_
                      refine a_iload_n (pc := 106) C dX8_copy_106 2 rfl ?_
                      refine a_iadd (pc := 107) C dX8_copy_107 ?_
                      refine a_bipush (pc := 108) (v := 40) C dX8_copy_108 (by decide) ?_
                      refine a_iload_n (pc := 110) C dX8_copy_110 3 rfl ?_
                      refine a_imul (pc := 111) C dX8_copy_111 ?_
                      refine a_iload (pc := 112) C dX8_copy_112 4 rfl ?_
                      refine a_iadd (pc := 114) C dX8_copy_114 ?_
                      refine a_jn 123 (fun a123 : Int32 => [(0, .ref (ad 0)), (1, .int x1), (2, .int x2), (3, .int x3), (4, .int x4), (5, .int x5)]) (fun a123 : Int32 => [.int a123]) (fun a123 : Int32 => M) hf (fun a123 hf => ?_) (fun k123 hk123 hf => ?_)
                      · refine a_istore (pc := 123) [(6, .int a123), (0, .ref (ad 0)), (1, .int x1), (2, .int x2), (3, .int x3), (4, .int x4), (5, .int x5)] C dX8_copy_123 (by decide) rfl ?_
                        refine a_iconst (pc := 125) (v := 0) C dX8_copy_125 (by decide) ?_
                        refine a_istore (pc := 126) [(7, .int (0 : Int32)), (6, .int a123), (0, .ref (ad 0)), (1, .int x1), (2, .int x2), (3, .int x3), (4, .int x4), (5, .int x5)] C dX8_copy_126 (by decide) rfl ?_
                        refine a_sub [2, 3, 4, 5, 6, 7, 1, 0] rfl ?_
                        refine a_lp 128 (fun a128 : Int32 × Mem => [(0, .ref (ad 0)), (1, .int x1), (2, .int x2), (3, .int x3), (4, .int x4), (5, .int x5), (6, .int a123), (7, .int a128.1)]) (fun a128 : Int32 × Mem => []) (fun a128 : Int32 × Mem => a128.2) (fun k128 a128 hk128 hf => ?_) N ((0 : Int32), M) hf
                        refine a_iload (pc := 128) C dX8_copy_128 7 rfl ?_
                        refine a_iload (pc := 130) C dX8_copy_130 5 rfl ?_
                        refine a_icmp_ge (pc := 132) 189 C dX8_copy_132 (by decide) hf (fun hf => ?_) (fun hf => ?_)
                        · refine a_iload (pc := 189) C dX8_copy_189 5 rfl ?_
                          exact a_iret (pc := 191) C dX8_copy_191 (so_1 hf) (so_2 hf)
                        · refine a_iload (pc := 135) C dX8_copy_135 6 rfl ?_
                          refine a_jn 152 (fun a152 : Int32 => [(0, .ref (ad 0)), (1, .int x1), (2, .int x2), (3, .int x3), (4, .int x4), (5, .int x5), (6, .int a123), (7, .int a128.1)]) (fun a152 : Int32 => [.int a152]) (fun a152 : Int32 => a128.2) hf (fun a152 hf => ?_) (fun k152 hk152 hf => ?_)
                          · refine a_istore (pc := 152) [(8, .int a152), (0, .ref (ad 0)), (1, .int x1), (2, .int x2), (3, .int x3), (4, .int x4), (5, .int x5), (6, .int a123), (7, .int a128.1)] C dX8_copy_152 (by decide) rfl ?_
                            refine a_aload_n (pc := 154) C dX8_copy_154 1 rfl ?_
                            refine a_getR (pc := 155) C dX8_copy_155 fl_X8_83 tm_0 rfl ?_
                            refine a_bipush (pc := 158) (v := 40) C dX8_copy_158 (by decide) ?_
                            refine a_iload_n (pc := 160) C dX8_copy_160 4 rfl ?_
                            refine a_imul (pc := 161) C dX8_copy_161 ?_
                            refine a_iload (pc := 162) C dX8_copy_162 5 rfl ?_
                            refine a_iadd (pc := 164) C dX8_copy_164 ?_
                            refine a_iload (pc := 165) C dX8_copy_165 0 rfl ?_
                            refine a_iadd (pc := 167) C dX8_copy_167 ?_
                            refine a_aload_n (pc := 168) C dX8_copy_168 1 rfl ?_
                            refine a_getR (pc := 169) C dX8_copy_169 fl_X8_83 tm_0 rfl ?_
                            refine a_bipush (pc := 172) (v := 40) C dX8_copy_172 (by decide) ?_
                            refine a_iload_n (pc := 174) C dX8_copy_174 2 rfl ?_
                            refine a_imul (pc := 175) C dX8_copy_175 ?_
                            refine a_iload_n (pc := 176) C dX8_copy_176 3 rfl ?_
                            refine a_iadd (pc := 177) C dX8_copy_177 ?_
                            refine a_iload (pc := 178) C dX8_copy_178 0 rfl ?_
                            refine a_iadd (pc := 180) C dX8_copy_180 ?_
                            refine a_lald (pc := 181) C dX8_copy_181 tm_22 hf (fun hf => ?_)
                            refine a_last (pc := 182) C dX8_copy_182 tm_22 hf (fun M5 hf => ?_)
                            refine a_iinc (pc := 183) (v := 1) (fun v6 => [(7, .int v6), (8, .int a152), (0, .ref (ad 0)), (1, .int x1), (2, .int x2), (3, .int x3), (4, .int x4), (5, .int x5), (6, .int a123)]) C dX8_copy_183 8 rfl (by decide) (by decide) (fun _ => rfl) hf (fun v6 hf => ?_)
                            refine a_goto (pc := 186) 128 C dX8_copy_186 (by decide) ?_
                            exact a_sub [2, 3, 4, 5, 6, 7, 8, 0] rfl (hk128 (v6, M5) hf)
                          · refine a_if_eq (pc := 137) 150 C dX8_copy_137 (by decide) hf (fun hf => ?_) (fun hf => ?_)
                            · refine a_iload (pc := 150) C dX8_copy_150 7 rfl ?_
                              exact a_sub [0, 1, 2, 3, 4, 5, 6, 7] rfl (hk152 a128.1 hf)
                            · refine a_iload (pc := 140) C dX8_copy_140 5 rfl ?_
                              refine a_iconst (pc := 142) (v := 1) C dX8_copy_142 (by decide) ?_
                              refine a_isub (pc := 143) C dX8_copy_143 ?_
                              refine a_iload (pc := 144) C dX8_copy_144 7 rfl ?_
                              refine a_isub (pc := 146) C dX8_copy_146 ?_
                              refine a_goto (pc := 147) 152 C dX8_copy_147 (by decide) ?_
                              exact a_sub [0, 1, 2, 3, 4, 5, 6, 7] rfl (hk152 ((x5 - (1 : Int32)) - a128.1) hf)
                      · refine a_icmp_ge (pc := 115) 122 C dX8_copy_115 (by decide) hf (fun hf => ?_) (fun hf => ?_)
                        · refine a_iconst (pc := 122) (v := 0) C dX8_copy_122 (by decide) ?_
                          exact a_sub [0, 1, 2, 3, 4, 5] rfl (hk123 (0 : Int32) hf)
                        · refine a_iconst (pc := 118) (v := 1) C dX8_copy_118 (by decide) ?_
                          refine a_goto (pc := 119) 123 C dX8_copy_119 (by decide) ?_
                          exact a_sub [0, 1, 2, 3, 4, 5] rfl (hk123 (1 : Int32) hf)
                    · refine a_bipush (pc := 99) (v := (-12)) C dX8_copy_99 (by decide) ?_
                      exact a_iret (pc := 101) C dX8_copy_101 (so_1 hf) (so_2 hf)
          · refine a_bipush (pc := 55) (v := (-13)) C dX8_copy_55 (by decide) ?_
            exact a_iret (pc := 57) C dX8_copy_57 (so_1 hf) (so_2 hf)
        · refine a_bipush (pc := 37) (v := (-11)) C dX8_copy_37 (by decide) ?_
          exact a_iret (pc := 39) C dX8_copy_39 (so_1 hf) (so_2 hf)
    · refine a_bipush (pc := 14) (v := (-2)) C dX8_copy_14 (by decide) ?_
      exact a_iret (pc := 16) C dX8_copy_16 (so_1 hf) (so_2 hf)
theorem dX2_finds_0 : decode cX2_finds 0 = .ok (.iconst 0, 1) := by decide +kernel
theorem dX2_finds_1 : decode cX2_finds 1 = .ok (.istore 4, 2) := by decide +kernel
theorem dX2_finds_3 : decode cX2_finds 3 = .ok (.iconst 1, 1) := by decide +kernel
theorem dX2_finds_4 : decode cX2_finds 4 = .ok (.aload_n 1, 1) := by decide +kernel
theorem dX2_finds_5 : decode cX2_finds 5 = .ok (.getfield 43, 3) := by decide +kernel
theorem dX2_finds_8 : decode cX2_finds 8 = .ok (.ishl, 1) := by decide +kernel
theorem dX2_finds_9 : decode cX2_finds 9 = .ok (.istore 5, 2) := by decide +kernel
theorem dX2_finds_11 : decode cX2_finds 11 = .ok (.iconst 0, 1) := by decide +kernel
theorem dX2_finds_12 : decode cX2_finds 12 = .ok (.istore 6, 2) := by decide +kernel
theorem dX2_finds_14 : decode cX2_finds 14 = .ok (.iload 6, 2) := by decide +kernel
theorem dX2_finds_16 : decode cX2_finds 16 = .ok (.iload 5, 2) := by decide +kernel
theorem dX2_finds_18 : decode cX2_finds 18 = .ok (.if_icmp .ge 76, 3) := by decide +kernel
theorem dX2_finds_21 : decode cX2_finds 21 = .ok (.aload_n 2, 1) := by decide +kernel
theorem dX2_finds_22 : decode cX2_finds 22 = .ok (.iload 6, 2) := by decide +kernel
theorem dX2_finds_24 : decode cX2_finds 24 = .ok (.aload_n 0, 1) := by decide +kernel
theorem dX2_finds_25 : decode cX2_finds 25 = .ok (.getfield 25, 3) := by decide +kernel
theorem dX2_finds_28 : decode cX2_finds 28 = .ok (.aload_n 0, 1) := by decide +kernel
theorem dX2_finds_29 : decode cX2_finds 29 = .ok (.getfield 29, 3) := by decide +kernel
theorem dX2_finds_32 : decode cX2_finds 32 = .ok (.invokevirtual 53, 3) := by decide +kernel
theorem dX2_finds_35 : decode cX2_finds 35 = .ok (.ifCond .eq 53, 3) := by decide +kernel
theorem dX2_finds_38 : decode cX2_finds 38 = .ok (.aload_n 0, 1) := by decide +kernel
theorem dX2_finds_39 : decode cX2_finds 39 = .ok (.aload_n 1, 1) := by decide +kernel
theorem dX2_finds_40 : decode cX2_finds 40 = .ok (.iload 6, 2) := by decide +kernel
theorem dX2_finds_42 : decode cX2_finds 42 = .ok (.invokevirtual 59, 3) := by decide +kernel
theorem dX2_finds_45 : decode cX2_finds 45 = .ok (.ifCond .eq 43, 3) := by decide +kernel
theorem dX2_finds_48 : decode cX2_finds 48 = .ok (.iload 4, 2) := by decide +kernel
theorem dX2_finds_50 : decode cX2_finds 50 = .ok (.ifCond .eq 14, 3) := by decide +kernel
theorem dX2_finds_53 : decode cX2_finds 53 = .ok (.aload_n 0, 1) := by decide +kernel
theorem dX2_finds_54 : decode cX2_finds 54 = .ok (.aload_n 1, 1) := by decide +kernel
theorem dX2_finds_55 : decode cX2_finds 55 = .ok (.getfield 32, 3) := by decide +kernel
theorem dX2_finds_58 : decode cX2_finds 58 = .ok (.invokevirtual 63, 3) := by decide +kernel
theorem dX2_finds_61 : decode cX2_finds 61 = .ok (.ifCond .eq 27, 3) := by decide +kernel
theorem dX2_finds_64 : decode cX2_finds 64 = .ok (.iconst 1, 1) := by decide +kernel
theorem dX2_finds_65 : decode cX2_finds 65 = .ok (.istore 4, 2) := by decide +kernel
theorem dX2_finds_67 : decode cX2_finds 67 = .ok (.aload_n 0, 1) := by decide +kernel
theorem dX2_finds_68 : decode cX2_finds 68 = .ok (.getfield 15, 3) := by decide +kernel
theorem dX2_finds_71 : decode cX2_finds 71 = .ok (.iconst 0, 1) := by decide +kernel
theorem dX2_finds_72 : decode cX2_finds 72 = .ok (.aload_n 0, 1) := by decide +kernel
theorem dX2_finds_73 : decode cX2_finds 73 = .ok (.getfield 9, 3) := by decide +kernel
theorem dX2_finds_76 : decode cX2_finds 76 = .ok (.iconst 0, 1) := by decide +kernel
theorem dX2_finds_77 : decode cX2_finds 77 = .ok (.bipush 6, 2) := by decide +kernel
theorem dX2_finds_79 : decode cX2_finds 79 = .ok (.invokestatic 67, 3) := by decide +kernel
theorem dX2_finds_82 : decode cX2_finds 82 = .ok (.iload_n 3, 1) := by decide +kernel
theorem dX2_finds_83 : decode cX2_finds 83 = .ok (.ifCond .ne 5, 3) := by decide +kernel
theorem dX2_finds_86 : decode cX2_finds 86 = .ok (.iconst 1, 1) := by decide +kernel
theorem dX2_finds_87 : decode cX2_finds 87 = .ok (.ireturn, 1) := by decide +kernel
theorem dX2_finds_88 : decode cX2_finds 88 = .ok (.iinc 6 1, 3) := by decide +kernel
theorem dX2_finds_91 : decode cX2_finds 91 = .ok (.goto (-77), 3) := by decide +kernel
theorem dX2_finds_94 : decode cX2_finds 94 = .ok (.iload 4, 2) := by decide +kernel
theorem dX2_finds_96 : decode cX2_finds 96 = .ok (.ireturn, 1) := by decide +kernel
def f_X2_finds (N : Nat) (c1 : Nat) (x3 : Int32) (M : Mem) : Option (Int32 × Mem) := nm ((1 : Int32) <<< ((M.1 c1 1) &&& 31)) (fun v1 => lp (fun (k14 : (Int32 × Int32 × Mem) → Option (Int32 × Mem)) (a14 : Int32 × Int32 × Mem) => if v1 ≤ a14.2.1 then (ck (a14.1 = 0 ∨ a14.1 = 1) (some (a14.1, a14.2.2))) else (bd (f_X4_allows N a14.2.1 (a14.2.2.1 26 1) (a14.2.2.1 26 2) a14.2.2) (fun v2 => jn (fun (a88 : Int32 × Mem) => nm (a14.2.1 + (1 : Int32)) (fun v4 => k14 (a88.1, v4, a88.2))) (fun (k88 : (Int32 × Mem) → Option (Int32 × Mem)) => if v2 = 0 then (k88 (a14.1, a14.2.2)) else (bd (f_X2_settles N c1 a14.2.1 a14.2.2) (fun w7 => if w7.1 = 0 then (k88 (a14.1, w7.2)) else (jn (fun (a64 : Unit) => ck (cpOk (0 : Int32) (0 : Int32) (6 : Int32) 6 6) (nm (putI w7.2 27 (va_cpy (w7.2.1 28) (w7.2.1 27) (0 : Int32).toNatClampNeg (0 : Int32).toNatClampNeg (6 : Int32).toNatClampNeg)) (fun M8 => if x3 = 0 then (some ((1 : Int32), M8)) else (k88 ((1 : Int32), M8))))) (fun (k64 : Unit → Option (Int32 × Mem)) => if a14.1 = 0 then (k64 ()) else (bd (f_X2_isTrialLess N (w7.2.1 c1 0) w7.2) (fun v9 => if v9 = 0 then (k88 (a14.1, w7.2)) else (k64 ()))))))))))) N ((0 : Int32), (0 : Int32), M))
set_option maxRecDepth 100000 in
set_option maxHeartbeats 4000000 in
theorem c_X2_finds {l : Launch} {D : va_G} {ac : Nat → ClassId} {A : Nat → Prop} {ad : Nat → Nat} {rest : va_W} (N : Nat) (c1 : Nat) (x3 : Int32) (hc1 : NetAt tabX c1) (M : Mem) (r0 : Int32) (M0 : Mem) (hf : f_X2_finds N c1 x3 M = some (r0, M0)) : CtI l D ac A tabX ad rest yX2_finds cX2_finds 7 .boolean 4 [.ref (ad 26), .ref (ad c1), .ref (ad 19), .int x3] M r0 M0 := by
  refine ct_ofI (own := RX2) (by decide +kernel) rfl (Nat.le_of_ble_eq_true rfl) ?_
  intro p e s m args below meth c C
  unfold f_X2_finds at hf
  refine a_L (L' := [(0, .ref (ad 26)), (1, .ref (ad c1)), (2, .ref (ad 19)), (3, .int x3)]) rfl ?_
  refine a_iconst (pc := 0) (v := 0) C dX2_finds_0 (by decide) ?_
  refine a_istore (pc := 1) [(4, .int (0 : Int32)), (0, .ref (ad 26)), (1, .ref (ad c1)), (2, .ref (ad 19)), (3, .int x3)] C dX2_finds_1 (by decide) rfl ?_
  refine a_iconst (pc := 3) (v := 1) C dX2_finds_3 (by decide) ?_
  refine a_aload_n (pc := 4) C dX2_finds_4 2 rfl ?_
  refine a_getI (pc := 5) C dX2_finds_5 fl_X2_43 hc1.1 rfl ?_
  refine a_ishl (pc := 8) C dX2_finds_8 ?_
  refine a_nmi hf (fun v1 hf => ?_)
  refine a_istore (pc := 9) [(5, .int v1), (4, .int (0 : Int32)), (0, .ref (ad 26)), (1, .ref (ad c1)), (2, .ref (ad 19)), (3, .int x3)] C dX2_finds_9 (by decide) rfl ?_
  refine a_iconst (pc := 11) (v := 0) C dX2_finds_11 (by decide) ?_
  refine a_istore (pc := 12) [(6, .int (0 : Int32)), (5, .int v1), (4, .int (0 : Int32)), (0, .ref (ad 26)), (1, .ref (ad c1)), (2, .ref (ad 19)), (3, .int x3)] C dX2_finds_12 (by decide) rfl ?_
  refine a_sub [3, 4, 5, 6, 2, 1, 0] rfl ?_
  refine a_lp 14 (fun a14 : Int32 × Int32 × Mem => [(0, .ref (ad 26)), (1, .ref (ad c1)), (2, .ref (ad 19)), (3, .int x3), (4, .int a14.1), (5, .int v1), (6, .int a14.2.1)]) (fun a14 : Int32 × Int32 × Mem => []) (fun a14 : Int32 × Int32 × Mem => a14.2.2) (fun k14 a14 hk14 hf => ?_) N ((0 : Int32), (0 : Int32), M) hf
  refine a_iload (pc := 14) C dX2_finds_14 6 rfl ?_
  refine a_iload (pc := 16) C dX2_finds_16 5 rfl ?_
  refine a_icmp_ge (pc := 18) 94 C dX2_finds_18 (by decide) hf (fun hf => ?_) (fun hf => ?_)
  · refine a_iload (pc := 94) C dX2_finds_94 4 rfl ?_
    exact a_zret (pc := 96) C dX2_finds_96 (ck_some hf).1 (so_1 (ck_some hf).2) (so_2 (ck_some hf).2)
  · refine a_aload_n (pc := 21) C dX2_finds_21 2 rfl ?_
    refine a_iload (pc := 22) C dX2_finds_22 6 rfl ?_
    refine a_aload_n (pc := 24) C dX2_finds_24 0 rfl ?_
    refine a_getI (pc := 25) C dX2_finds_25 fl_X2_25 tx_26 rfl ?_
    refine a_aload_n (pc := 28) C dX2_finds_28 0 rfl ?_
    refine a_getI (pc := 29) C dX2_finds_29 fl_X2_29 tx_26 rfl ?_
    refine a_callV_Ir (pc := 32) (d' := 3) C dX2_finds_32 ml_X2_53 mc_X4_allows mv_X4_allows tx_19 rfl [.int a14.2.1, .int (a14.2.2.1 26 1), .int (a14.2.2.1 26 2)] rfl (Nat.le_of_ble_eq_true rfl) (Nat.le_of_ble_eq_true rfl) rfl (Nat.le_of_ble_eq_true rfl) (fun r h => c_X4_allows N a14.2.1 (a14.2.2.1 26 1) (a14.2.2.1 26 2)  _  r h) hf (fun v2 hf => ?_)
    refine a_jn 88 (fun a88 : Int32 × Mem => [(0, .ref (ad 26)), (1, .ref (ad c1)), (2, .ref (ad 19)), (3, .int x3), (4, .int a88.1), (5, .int v1), (6, .int a14.2.1)]) (fun a88 : Int32 × Mem => []) (fun a88 : Int32 × Mem => a88.2) hf (fun a88 hf => ?_) (fun k88 hk88 hf => ?_)
    · refine a_iinc (pc := 88) (v := 1) (fun v4 => [(6, .int v4), (0, .ref (ad 26)), (1, .ref (ad c1)), (2, .ref (ad 19)), (3, .int x3), (4, .int a88.1), (5, .int v1)]) C dX2_finds_88 6 rfl (by decide) (by decide) (fun _ => rfl) hf (fun v4 hf => ?_)
      refine a_goto (pc := 91) 14 C dX2_finds_91 (by decide) ?_
      exact a_sub [1, 2, 3, 4, 5, 6, 0] rfl (hk14 (a88.1, v4, a88.2) hf)
    · refine a_if_eq (pc := 35) 88 C dX2_finds_35 (by decide) hf (fun hf => ?_) (fun hf => ?_)
      · exact a_sub [0, 1, 2, 3, 4, 5, 6] rfl (hk88 (a14.1, a14.2.2) hf)
      · refine a_aload_n (pc := 38) C dX2_finds_38 0 rfl ?_
        refine a_aload_n (pc := 39) C dX2_finds_39 1 rfl ?_
        refine a_iload (pc := 40) C dX2_finds_40 6 rfl ?_
        refine a_callV_I (pc := 42) (d' := 3) C dX2_finds_42 ml_X2_59 mc_X2_settles mv_X2_settles tx_26 rfl [.ref (ad c1), .int a14.2.1] rfl (Nat.le_of_ble_eq_true rfl) (Nat.le_of_ble_eq_true rfl) rfl (Nat.le_of_ble_eq_true rfl) (fun r M' h => c_X2_settles N c1 a14.2.1 hc1 _  r M' h) hf (fun v5 M6 hf => ?_)
        refine a_if_eq (pc := 45) 88 C dX2_finds_45 (by decide) hf (fun hf => ?_) (fun hf => ?_)
        · exact a_sub [0, 1, 2, 3, 4, 5, 6] rfl (hk88 (a14.1, M6) hf)
        · refine a_iload (pc := 48) C dX2_finds_48 4 rfl ?_
          refine a_jn 64 (fun a64 : Unit => [(0, .ref (ad 26)), (1, .ref (ad c1)), (2, .ref (ad 19)), (3, .int x3), (5, .int v1), (6, .int a14.2.1)]) (fun a64 : Unit => []) (fun a64 : Unit => M6) hf (fun a64 hf => ?_) (fun k64 hk64 hf => ?_)
          · refine a_iconst (pc := 64) (v := 1) C dX2_finds_64 (by decide) ?_
            refine a_istore (pc := 65) [(4, .int (1 : Int32)), (0, .ref (ad 26)), (1, .ref (ad c1)), (2, .ref (ad 19)), (3, .int x3), (5, .int v1), (6, .int a14.2.1)] C dX2_finds_65 (by decide) rfl ?_
            refine a_aload_n (pc := 67) C dX2_finds_67 1 rfl ?_
            refine a_getR (pc := 68) C dX2_finds_68 fl_X2_15 tx_26 rfl ?_
            refine a_iconst (pc := 71) (v := 0) C dX2_finds_71 (by decide) ?_
            refine a_aload_n (pc := 72) C dX2_finds_72 1 rfl ?_
            refine a_getR (pc := 73) C dX2_finds_73 fl_X2_9 tx_26 rfl ?_
            refine a_iconst (pc := 76) (v := 0) C dX2_finds_76 (by decide) ?_
            refine a_bipush (pc := 77) (v := 6) C dX2_finds_77 (by decide) ?_
            refine a_copyI (pc := 79) C dX2_finds_79 ml_X2_67 tx_28 tx_27 (Nat.le_of_ble_eq_true rfl) (Nat.le_of_ble_eq_true rfl) hf (fun M8 hf => ?_)
            refine a_iload_n (pc := 82) C dX2_finds_82 4 rfl ?_
            refine a_if_ne (pc := 83) 88 C dX2_finds_83 (by decide) hf (fun hf => ?_) (fun hf => ?_)
            · exact a_sub [1, 2, 3, 4, 0, 5, 6] rfl (hk88 ((1 : Int32), M8) hf)
            · refine a_iconst (pc := 86) (v := 1) C dX2_finds_86 (by decide) ?_
              exact a_zret (pc := 87) C dX2_finds_87 (Or.inr rfl) (so_1 hf) (so_2 hf)
          · refine a_if_eq (pc := 50) 64 C dX2_finds_50 (by decide) hf (fun hf => ?_) (fun hf => ?_)
            · exact a_sub [0, 1, 2, 3, 5, 6] rfl (hk64 () hf)
            · refine a_aload_n (pc := 53) C dX2_finds_53 0 rfl ?_
              refine a_aload_n (pc := 54) C dX2_finds_54 1 rfl ?_
              refine a_getI (pc := 55) C dX2_finds_55 fl_X2_32 hc1.1 rfl ?_
              refine a_callV_Ir (pc := 58) (d' := 1) C dX2_finds_58 ml_X2_63 mc_X2_isTrialLess mv_X2_isTrialLess tx_26 rfl [.int (M6.1 c1 0)] rfl (Nat.le_of_ble_eq_true rfl) (Nat.le_of_ble_eq_true rfl) rfl (Nat.le_of_ble_eq_true rfl) (fun r h => c_X2_isTrialLess N (M6.1 c1 0)  _  r h) hf (fun v9 hf => ?_)
              refine a_if_eq (pc := 61) 88 C dX2_finds_61 (by decide) hf (fun hf => ?_) (fun hf => ?_)
              · exact a_sub [0, 1, 2, 3, 4, 5, 6] rfl (hk88 (a14.1, M6) hf)
              · exact a_sub [0, 1, 2, 3, 5, 6] rfl (hk64 () hf)
theorem dX4_findRings_0 : decode cX4_findRings 0 = .ok (.aload_n 0, 1) := by decide +kernel
theorem dX4_findRings_1 : decode cX4_findRings 1 = .ok (.getfield 30, 3) := by decide +kernel
theorem dX4_findRings_4 : decode cX4_findRings 4 = .ok (.ifCond .eq 4, 3) := by decide +kernel
theorem dX4_findRings_7 : decode cX4_findRings 7 = .ok (.return_, 1) := by decide +kernel
theorem dX4_findRings_8 : decode cX4_findRings 8 = .ok (.aload_n 0, 1) := by decide +kernel
theorem dX4_findRings_9 : decode cX4_findRings 9 = .ok (.iconst 1, 1) := by decide +kernel
theorem dX4_findRings_10 : decode cX4_findRings 10 = .ok (.putfield 30, 3) := by decide +kernel
theorem dX4_findRings_13 : decode cX4_findRings 13 = .ok (.aload_n 0, 1) := by decide +kernel
theorem dX4_findRings_14 : decode cX4_findRings 14 = .ok (.iconst 0, 1) := by decide +kernel
theorem dX4_findRings_15 : decode cX4_findRings 15 = .ok (.putfield 37, 3) := by decide +kernel
theorem dX4_findRings_18 : decode cX4_findRings 18 = .ok (.aload_n 0, 1) := by decide +kernel
theorem dX4_findRings_19 : decode cX4_findRings 19 = .ok (.iconst 1, 1) := by decide +kernel
theorem dX4_findRings_20 : decode cX4_findRings 20 = .ok (.aload_n 1, 1) := by decide +kernel
theorem dX4_findRings_21 : decode cX4_findRings 21 = .ok (.getfield 41, 3) := by decide +kernel
theorem dX4_findRings_24 : decode cX4_findRings 24 = .ok (.ishl, 1) := by decide +kernel
theorem dX4_findRings_25 : decode cX4_findRings 25 = .ok (.putfield 46, 3) := by decide +kernel
theorem dX4_findRings_28 : decode cX4_findRings 28 = .ok (.aload_n 0, 1) := by decide +kernel
theorem dX4_findRings_29 : decode cX4_findRings 29 = .ok (.getfield 18, 3) := by decide +kernel
theorem dX4_findRings_32 : decode cX4_findRings 32 = .ok (.iconst 0, 1) := by decide +kernel
theorem dX4_findRings_33 : decode cX4_findRings 33 = .ok (.invokestatic 49, 3) := by decide +kernel
theorem dX4_findRings_36 : decode cX4_findRings 36 = .ok (.iconst 0, 1) := by decide +kernel
theorem dX4_findRings_37 : decode cX4_findRings 37 = .ok (.istore_n 2, 1) := by decide +kernel
theorem dX4_findRings_38 : decode cX4_findRings 38 = .ok (.iload_n 2, 1) := by decide +kernel
theorem dX4_findRings_39 : decode cX4_findRings 39 = .ok (.aload_n 1, 1) := by decide +kernel
theorem dX4_findRings_40 : decode cX4_findRings 40 = .ok (.getfield 41, 3) := by decide +kernel
theorem dX4_findRings_43 : decode cX4_findRings 43 = .ok (.if_icmp .ge 43, 3) := by decide +kernel
theorem dX4_findRings_46 : decode cX4_findRings 46 = .ok (.aload_n 0, 1) := by decide +kernel
theorem dX4_findRings_47 : decode cX4_findRings 47 = .ok (.getfield 18, 3) := by decide +kernel
theorem dX4_findRings_50 : decode cX4_findRings 50 = .ok (.aload_n 1, 1) := by decide +kernel
theorem dX4_findRings_51 : decode cX4_findRings 51 = .ok (.getfield 55, 3) := by decide +kernel
theorem dX4_findRings_54 : decode cX4_findRings 54 = .ok (.iload_n 2, 1) := by decide +kernel
theorem dX4_findRings_55 : decode cX4_findRings 55 = .ok (.iaload, 1) := by decide +kernel
theorem dX4_findRings_56 : decode cX4_findRings 56 = .ok (.dup2, 1) := by decide +kernel
theorem dX4_findRings_57 : decode cX4_findRings 57 = .ok (.iaload, 1) := by decide +kernel
theorem dX4_findRings_58 : decode cX4_findRings 58 = .ok (.iconst 1, 1) := by decide +kernel
theorem dX4_findRings_59 : decode cX4_findRings 59 = .ok (.iload_n 2, 1) := by decide +kernel
theorem dX4_findRings_60 : decode cX4_findRings 60 = .ok (.ishl, 1) := by decide +kernel
theorem dX4_findRings_61 : decode cX4_findRings 61 = .ok (.ior, 1) := by decide +kernel
theorem dX4_findRings_62 : decode cX4_findRings 62 = .ok (.iastore, 1) := by decide +kernel
theorem dX4_findRings_63 : decode cX4_findRings 63 = .ok (.aload_n 0, 1) := by decide +kernel
theorem dX4_findRings_64 : decode cX4_findRings 64 = .ok (.getfield 18, 3) := by decide +kernel
theorem dX4_findRings_67 : decode cX4_findRings 67 = .ok (.aload_n 1, 1) := by decide +kernel
theorem dX4_findRings_68 : decode cX4_findRings 68 = .ok (.getfield 58, 3) := by decide +kernel
theorem dX4_findRings_71 : decode cX4_findRings 71 = .ok (.iload_n 2, 1) := by decide +kernel
theorem dX4_findRings_72 : decode cX4_findRings 72 = .ok (.iaload, 1) := by decide +kernel
theorem dX4_findRings_73 : decode cX4_findRings 73 = .ok (.dup2, 1) := by decide +kernel
theorem dX4_findRings_74 : decode cX4_findRings 74 = .ok (.iaload, 1) := by decide +kernel
theorem dX4_findRings_75 : decode cX4_findRings 75 = .ok (.iconst 1, 1) := by decide +kernel
theorem dX4_findRings_76 : decode cX4_findRings 76 = .ok (.iload_n 2, 1) := by decide +kernel
theorem dX4_findRings_77 : decode cX4_findRings 77 = .ok (.ishl, 1) := by decide +kernel
theorem dX4_findRings_78 : decode cX4_findRings 78 = .ok (.ior, 1) := by decide +kernel
theorem dX4_findRings_79 : decode cX4_findRings 79 = .ok (.iastore, 1) := by decide +kernel
theorem dX4_findRings_80 : decode cX4_findRings 80 = .ok (.iinc 2 1, 3) := by decide +kernel
theorem dX4_findRings_83 : decode cX4_findRings 83 = .ok (.goto (-45), 3) := by decide +kernel
theorem dX4_findRings_86 : decode cX4_findRings 86 = .ok (.iconst 1, 1) := by decide +kernel
theorem dX4_findRings_87 : decode cX4_findRings 87 = .ok (.istore_n 2, 1) := by decide +kernel
theorem dX4_findRings_88 : decode cX4_findRings 88 = .ok (.iload_n 2, 1) := by decide +kernel
theorem dX4_findRings_89 : decode cX4_findRings 89 = .ok (.aload_n 0, 1) := by decide +kernel
theorem dX4_findRings_90 : decode cX4_findRings 90 = .ok (.getfield 46, 3) := by decide +kernel
theorem dX4_findRings_93 : decode cX4_findRings 93 = .ok (.if_icmp .ge 65, 3) := by decide +kernel
theorem dX4_findRings_96 : decode cX4_findRings 96 = .ok (.iload_n 2, 1) := by decide +kernel
theorem dX4_findRings_97 : decode cX4_findRings 97 = .ok (.invokestatic 61, 3) := by decide +kernel
theorem dX4_findRings_100 : decode cX4_findRings 100 = .ok (.istore_n 3, 1) := by decide +kernel
theorem dX4_findRings_101 : decode cX4_findRings 101 = .ok (.iload_n 3, 1) := by decide +kernel
theorem dX4_findRings_102 : decode cX4_findRings 102 = .ok (.iconst 1, 1) := by decide +kernel
theorem dX4_findRings_103 : decode cX4_findRings 103 = .ok (.if_icmp .ne 14, 3) := by decide +kernel
theorem dX4_findRings_106 : decode cX4_findRings 106 = .ok (.aload_n 0, 1) := by decide +kernel
theorem dX4_findRings_107 : decode cX4_findRings 107 = .ok (.aload_n 1, 1) := by decide +kernel
theorem dX4_findRings_108 : decode cX4_findRings 108 = .ok (.iload_n 2, 1) := by decide +kernel
theorem dX4_findRings_109 : decode cX4_findRings 109 = .ok (.iload_n 2, 1) := by decide +kernel
theorem dX4_findRings_110 : decode cX4_findRings 110 = .ok (.iconst 2, 1) := by decide +kernel
theorem dX4_findRings_111 : decode cX4_findRings 111 = .ok (.invokevirtual 67, 3) := by decide +kernel
theorem dX4_findRings_114 : decode cX4_findRings 114 = .ok (.goto 38, 3) := by decide +kernel
theorem dX4_findRings_117 : decode cX4_findRings 117 = .ok (.iload_n 3, 1) := by decide +kernel
theorem dX4_findRings_118 : decode cX4_findRings 118 = .ok (.iconst 2, 1) := by decide +kernel
theorem dX4_findRings_119 : decode cX4_findRings 119 = .ok (.if_icmp .le 33, 3) := by decide +kernel
theorem dX4_findRings_122 : decode cX4_findRings 122 = .ok (.iload_n 3, 1) := by decide +kernel
theorem dX4_findRings_123 : decode cX4_findRings 123 = .ok (.aload_n 1, 1) := by decide +kernel
theorem dX4_findRings_124 : decode cX4_findRings 124 = .ok (.getfield 71, 3) := by decide +kernel
theorem dX4_findRings_127 : decode cX4_findRings 127 = .ok (.if_icmp .gt 25, 3) := by decide +kernel
theorem dX4_findRings_130 : decode cX4_findRings 130 = .ok (.aload_n 0, 1) := by decide +kernel
theorem dX4_findRings_131 : decode cX4_findRings 131 = .ok (.aload_n 1, 1) := by decide +kernel
theorem dX4_findRings_132 : decode cX4_findRings 132 = .ok (.iload_n 2, 1) := by decide +kernel
theorem dX4_findRings_133 : decode cX4_findRings 133 = .ok (.invokevirtual 74, 3) := by decide +kernel
theorem dX4_findRings_136 : decode cX4_findRings 136 = .ok (.istore 4, 2) := by decide +kernel
theorem dX4_findRings_138 : decode cX4_findRings 138 = .ok (.iload 4, 2) := by decide +kernel
theorem dX4_findRings_140 : decode cX4_findRings 140 = .ok (.ifCond .lt 12, 3) := by decide +kernel
theorem dX4_findRings_143 : decode cX4_findRings 143 = .ok (.aload_n 0, 1) := by decide +kernel
theorem dX4_findRings_144 : decode cX4_findRings 144 = .ok (.aload_n 1, 1) := by decide +kernel
theorem dX4_findRings_145 : decode cX4_findRings 145 = .ok (.iload_n 2, 1) := by decide +kernel
theorem dX4_findRings_146 : decode cX4_findRings 146 = .ok (.iload 4, 2) := by decide +kernel
theorem dX4_findRings_148 : decode cX4_findRings 148 = .ok (.iconst 1, 1) := by decide +kernel
theorem dX4_findRings_149 : decode cX4_findRings 149 = .ok (.invokevirtual 67, 3) := by decide +kernel
theorem dX4_findRings_152 : decode cX4_findRings 152 = .ok (.iinc 2 1, 3) := by decide +kernel
theorem dX4_findRings_155 : decode cX4_findRings 155 = .ok (.goto (-67), 3) := by decide +kernel
theorem dX4_findRings_158 : decode cX4_findRings 158 = .ok (.return_, 1) := by decide +kernel
def f_X4_findRings (N : Nat) (c1 : Nat) (M : Mem) : Option (Mem) := if (M.1 19 5) = 0 then (ck ((1 : Int32) = 0 ∨ (1 : Int32) = 1) (nm (setI M 19 5 (1 : Int32)) (fun M1 => nm (setI M1 19 0 (0 : Int32)) (fun M2 => nm (setI M2 19 7 ((1 : Int32) <<< ((M2.1 c1 1) &&& 31))) (fun M3 => bd (f_J7_fill_53178 N 22 6 (0 : Int32) M3) (fun M5 => lp (fun (k38 : (Int32 × Mem) → Option (Mem)) (a38 : Int32 × Mem) => if (a38.2.1 c1 1) ≤ a38.1 then (lp (fun (k88 : (Int32 × Mem) → Option (Mem)) (a88 : Int32 × Mem) => if (a88.2.1 19 7) ≤ a88.1 then (some a88.2) else (bd (f_J6_bitCount_0f7a4 N a88.1 a88.2) (fun v6 => jn (fun (a152 : Mem) => nm (a88.1 + (1 : Int32)) (fun v8 => k88 (v8, a152))) (fun (k152 : Mem → Option (Mem)) => if v6 = (1 : Int32) then (bd (f_X4_addRing N c1 a88.1 a88.1 (2 : Int32) a88.2) (fun M14 => k152 M14)) else (if v6 ≤ (2 : Int32) then (k152 a88.2) else (if (a88.2.1 c1 0) < v6 then (k152 a88.2) else (bd (f_X4_goRound N c1 a88.1 a88.2) (fun v9 => if v9 < 0 then (k152 a88.2) else (bd (f_X4_addRing N c1 a88.1 v9 (1 : Int32) a88.2) (fun M12 => k152 M12)))))))))) N ((1 : Int32), a38.2)) else (ck (inb a38.1 10) (ck (inb (a38.2.1 (c1 + 3) a38.1.toNatClampNeg) 6) (ck (inb (a38.2.1 (c1 + 3) a38.1.toNatClampNeg) 6) (nm (setI a38.2 22 (a38.2.1 (c1 + 3) a38.1.toNatClampNeg).toNatClampNeg ((a38.2.1 22 (a38.2.1 (c1 + 3) a38.1.toNatClampNeg).toNatClampNeg) ||| ((1 : Int32) <<< (a38.1 &&& 31)))) (fun M15 => ck (inb a38.1 10) (ck (inb (M15.1 (c1 + 4) a38.1.toNatClampNeg) 6) (ck (inb (M15.1 (c1 + 4) a38.1.toNatClampNeg) 6) (nm (setI M15 22 (M15.1 (c1 + 4) a38.1.toNatClampNeg).toNatClampNeg ((M15.1 22 (M15.1 (c1 + 4) a38.1.toNatClampNeg).toNatClampNeg) ||| ((1 : Int32) <<< (a38.1 &&& 31)))) (fun M16 => nm (a38.1 + (1 : Int32)) (fun v17 => k38 (v17, M16)))))))))))) N ((0 : Int32), M5))))))) else (some M)
set_option maxRecDepth 100000 in
set_option maxHeartbeats 4000000 in
theorem c_X4_findRings {l : Launch} {D : va_G} {ac : Nat → ClassId} {A : Nat → Prop} {ad : Nat → Nat} {rest : va_W} (N : Nat) (c1 : Nat) (hc1 : NetAt tabX c1) (M : Mem)  (M0 : Mem) (hf : f_X4_findRings N c1 M = some M0) : CtV l D ac A tabX ad rest yX4_findRings cX4_findRings 5  4 [.ref (ad 19), .ref (ad c1)] M  M0 := by
  refine ct_ofV (own := RX4) (by decide +kernel) rfl (Nat.le_of_ble_eq_true rfl) ?_
  intro p e s m args below meth c C
  unfold f_X4_findRings at hf
  refine a_L (L' := [(0, .ref (ad 19)), (1, .ref (ad c1))]) rfl ?_
  refine a_aload_n (pc := 0) C dX4_findRings_0 0 rfl ?_
  refine a_getI (pc := 1) C dX4_findRings_1 fl_X4_30 tx_19 rfl ?_
  refine a_if_eq (pc := 4) 8 C dX4_findRings_4 (by decide) hf (fun hf => ?_) (fun hf => ?_)
  · refine a_aload_n (pc := 8) C dX4_findRings_8 0 rfl ?_
    refine a_iconst (pc := 9) (v := 1) C dX4_findRings_9 (by decide) ?_
    refine a_putZ (pc := 10) C dX4_findRings_10 fl_X4_30 tx_19 rfl hf (fun M1 hf => ?_)
    refine a_aload_n (pc := 13) C dX4_findRings_13 0 rfl ?_
    refine a_iconst (pc := 14) (v := 0) C dX4_findRings_14 (by decide) ?_
    refine a_putI (pc := 15) C dX4_findRings_15 fl_X4_37 tx_19 rfl hf (fun M2 hf => ?_)
    refine a_aload_n (pc := 18) C dX4_findRings_18 0 rfl ?_
    refine a_iconst (pc := 19) (v := 1) C dX4_findRings_19 (by decide) ?_
    refine a_aload_n (pc := 20) C dX4_findRings_20 1 rfl ?_
    refine a_getI (pc := 21) C dX4_findRings_21 fl_X4_41 hc1.1 rfl ?_
    refine a_ishl (pc := 24) C dX4_findRings_24 ?_
    refine a_putI (pc := 25) C dX4_findRings_25 fl_X4_46 tx_19 rfl hf (fun M3 hf => ?_)
    refine a_aload_n (pc := 28) C dX4_findRings_28 0 rfl ?_
    refine a_getR (pc := 29) C dX4_findRings_29 fl_X4_18 tx_19 rfl ?_
    refine a_iconst (pc := 32) (v := 0) C dX4_findRings_32 (by decide) ?_
    refine a_callS_V (pc := 33) (d' := 1) C dX4_findRings_33 ml_X4_49 mc_J7_fill_53178 ms_J7_fill_53178 [.ref (ad 22), .int (0 : Int32)] rfl (Nat.le_of_ble_eq_true rfl) (Nat.le_of_ble_eq_true rfl) rfl (Nat.le_of_ble_eq_true rfl) (fun M' h => c_J7_fill_53178 N 22 6 (0 : Int32) tx_22 _  M' h) hf (fun M5 hf => ?_)
    refine a_iconst (pc := 36) (v := 0) C dX4_findRings_36 (by decide) ?_
    refine a_istore_n (pc := 37) [(2, .int (0 : Int32)), (0, .ref (ad 19)), (1, .ref (ad c1))] C dX4_findRings_37 (by decide) rfl ?_
    refine a_sub [1, 2, 0] rfl ?_
    refine a_lp 38 (fun a38 : Int32 × Mem => [(0, .ref (ad 19)), (1, .ref (ad c1)), (2, .int a38.1)]) (fun a38 : Int32 × Mem => []) (fun a38 : Int32 × Mem => a38.2) (fun k38 a38 hk38 hf => ?_) N ((0 : Int32), M5) hf
    refine a_iload_n (pc := 38) C dX4_findRings_38 2 rfl ?_
    refine a_aload_n (pc := 39) C dX4_findRings_39 1 rfl ?_
    refine a_getI (pc := 40) C dX4_findRings_40 fl_X4_41 hc1.1 rfl ?_
    refine a_icmp_ge (pc := 43) 86 C dX4_findRings_43 (by decide) hf (fun hf => ?_) (fun hf => ?_)
    · refine a_iconst (pc := 86) (v := 1) C dX4_findRings_86 (by decide) ?_
      refine a_istore_n (pc := 87) [(2, .int (1 : Int32)), (0, .ref (ad 19)), (1, .ref (ad c1))] C dX4_findRings_87 (by decide) rfl ?_
      refine a_sub [1, 2, 0] rfl ?_
      refine a_lp 88 (fun a88 : Int32 × Mem => [(0, .ref (ad 19)), (1, .ref (ad c1)), (2, .int a88.1)]) (fun a88 : Int32 × Mem => []) (fun a88 : Int32 × Mem => a88.2) (fun k88 a88 hk88 hf => ?_) N ((1 : Int32), a38.2) hf
      refine a_iload_n (pc := 88) C dX4_findRings_88 2 rfl ?_
      refine a_aload_n (pc := 89) C dX4_findRings_89 0 rfl ?_
      refine a_getI (pc := 90) C dX4_findRings_90 fl_X4_46 tx_19 rfl ?_
      refine a_icmp_ge (pc := 93) 158 C dX4_findRings_93 (by decide) hf (fun hf => ?_) (fun hf => ?_)
      · exact a_vret (pc := 158) C dX4_findRings_158 (Option.some.inj hf)
      · refine a_iload_n (pc := 96) C dX4_findRings_96 2 rfl ?_
        refine a_callS_Ir (pc := 97) (d' := 1) C dX4_findRings_97 ml_X4_61 mc_J6_bitCount_0f7a4 ms_J6_bitCount_0f7a4 [.int a88.1] rfl (Nat.le_of_ble_eq_true rfl) (Nat.le_of_ble_eq_true rfl) rfl (Nat.le_of_ble_eq_true rfl) (fun r h => c_J6_bitCount_0f7a4 N a88.1  _  r h) hf (fun v6 hf => ?_)
        refine a_istore_n (pc := 100) [(3, .int v6), (0, .ref (ad 19)), (1, .ref (ad c1)), (2, .int a88.1)] C dX4_findRings_100 (by decide) rfl ?_
        refine a_iload_n (pc := 101) C dX4_findRings_101 0 rfl ?_
        refine a_iconst (pc := 102) (v := 1) C dX4_findRings_102 (by decide) ?_
        refine a_jn 152 (fun a152 : Mem => [(0, .ref (ad 19)), (1, .ref (ad c1)), (2, .int a88.1)]) (fun a152 : Mem => []) (fun a152 : Mem => a152) hf (fun a152 hf => ?_) (fun k152 hk152 hf => ?_)
        · refine a_iinc (pc := 152) (v := 1) (fun v8 => [(2, .int v8), (0, .ref (ad 19)), (1, .ref (ad c1))]) C dX4_findRings_152 2 rfl (by decide) (by decide) (fun _ => rfl) hf (fun v8 hf => ?_)
          refine a_goto (pc := 155) 88 C dX4_findRings_155 (by decide) ?_
          exact a_sub [1, 2, 0] rfl (hk88 (v8, a152) hf)
        · refine a_icmp_ne (pc := 103) 117 C dX4_findRings_103 (by decide) hf (fun hf => ?_) (fun hf => ?_)
          · refine a_iload_n (pc := 117) C dX4_findRings_117 0 rfl ?_
            refine a_iconst (pc := 118) (v := 2) C dX4_findRings_118 (by decide) ?_
            refine a_icmp_le (pc := 119) 152 C dX4_findRings_119 (by decide) hf (fun hf => ?_) (fun hf => ?_)
            · exact a_sub [1, 2, 3] rfl (hk152 a88.2 hf)
            · refine a_iload_n (pc := 122) C dX4_findRings_122 0 rfl ?_
              refine a_aload_n (pc := 123) C dX4_findRings_123 2 rfl ?_
              refine a_getI (pc := 124) C dX4_findRings_124 fl_X4_71 hc1.1 rfl ?_
              refine a_icmp_gt (pc := 127) 152 C dX4_findRings_127 (by decide) hf (fun hf => ?_) (fun hf => ?_)
              · exact a_sub [1, 2, 3] rfl (hk152 a88.2 hf)
              · refine a_aload_n (pc := 130) C dX4_findRings_130 1 rfl ?_
                refine a_aload_n (pc := 131) C dX4_findRings_131 2 rfl ?_
                refine a_iload_n (pc := 132) C dX4_findRings_132 3 rfl ?_
                refine a_callV_Ir (pc := 133) (d' := 3) C dX4_findRings_133 ml_X4_74 mc_X4_goRound mv_X4_goRound tx_19 rfl [.ref (ad c1), .int a88.1] rfl (Nat.le_of_ble_eq_true rfl) (Nat.le_of_ble_eq_true rfl) rfl (Nat.le_of_ble_eq_true rfl) (fun r h => c_X4_goRound N c1 a88.1 hc1 _  r h) hf (fun v9 hf => ?_)
                refine a_istore (pc := 136) [(4, .int v9), (3, .int v6), (0, .ref (ad 19)), (1, .ref (ad c1)), (2, .int a88.1)] C dX4_findRings_136 (by decide) rfl ?_
                refine a_iload (pc := 138) C dX4_findRings_138 0 rfl ?_
                refine a_if_lt (pc := 140) 152 C dX4_findRings_140 (by decide) hf (fun hf => ?_) (fun hf => ?_)
                · exact a_sub [2, 3, 4] rfl (hk152 a88.2 hf)
                · refine a_aload_n (pc := 143) C dX4_findRings_143 2 rfl ?_
                  refine a_aload_n (pc := 144) C dX4_findRings_144 3 rfl ?_
                  refine a_iload_n (pc := 145) C dX4_findRings_145 4 rfl ?_
                  refine a_iload (pc := 146) C dX4_findRings_146 0 rfl ?_
                  refine a_iconst (pc := 148) (v := 1) C dX4_findRings_148 (by decide) ?_
                  refine a_callV_V (pc := 149) (d' := 3) C dX4_findRings_149 ml_X4_67 mc_X4_addRing mv_X4_addRing tx_19 rfl [.ref (ad c1), .int a88.1, .int v9, .int (1 : Int32)] rfl (Nat.le_of_ble_eq_true rfl) (Nat.le_of_ble_eq_true rfl) rfl (Nat.le_of_ble_eq_true rfl) (fun M' h => c_X4_addRing N c1 a88.1 v9 (1 : Int32) hc1 _  M' h) hf (fun M12 hf => ?_)
                  exact a_sub [2, 3, 4] rfl (hk152 M12 hf)
          · refine a_aload_n (pc := 106) C dX4_findRings_106 1 rfl ?_
            refine a_aload_n (pc := 107) C dX4_findRings_107 2 rfl ?_
            refine a_iload_n (pc := 108) C dX4_findRings_108 3 rfl ?_
            refine a_iload_n (pc := 109) C dX4_findRings_109 3 rfl ?_
            refine a_iconst (pc := 110) (v := 2) C dX4_findRings_110 (by decide) ?_
            refine a_callV_V (pc := 111) (d' := 3) C dX4_findRings_111 ml_X4_67 mc_X4_addRing mv_X4_addRing tx_19 rfl [.ref (ad c1), .int a88.1, .int a88.1, .int (2 : Int32)] rfl (Nat.le_of_ble_eq_true rfl) (Nat.le_of_ble_eq_true rfl) rfl (Nat.le_of_ble_eq_true rfl) (fun M' h => c_X4_addRing N c1 a88.1 a88.1 (2 : Int32) hc1 _  M' h) hf (fun M14 hf => ?_)
            refine a_goto (pc := 114) 152 C dX4_findRings_114 (by decide) ?_
            exact a_sub [1, 2, 3] rfl (hk152 M14 hf)
    · refine a_aload_n (pc := 46) C dX4_findRings_46 0 rfl ?_
      refine a_getR (pc := 47) C dX4_findRings_47 fl_X4_18 tx_19 rfl ?_
      refine a_aload_n (pc := 50) C dX4_findRings_50 1 rfl ?_
      refine a_getR (pc := 51) C dX4_findRings_51 fl_X4_55 hc1.1 rfl ?_
      refine a_iload_n (pc := 54) C dX4_findRings_54 2 rfl ?_
      refine a_iald (pc := 55) C dX4_findRings_55 hc1.2.2.2.1 hf (fun hf => ?_)
      refine a_dup2_11 (pc := 56) C dX4_findRings_56 rfl rfl ?_
      refine a_iald (pc := 57) C dX4_findRings_57 tx_22 hf (fun hf => ?_)
      refine a_iconst (pc := 58) (v := 1) C dX4_findRings_58 (by decide) ?_
      refine a_iload_n (pc := 59) C dX4_findRings_59 2 rfl ?_
      refine a_ishl (pc := 60) C dX4_findRings_60 ?_
      refine a_ior (pc := 61) C dX4_findRings_61 ?_
      refine a_iast (pc := 62) C dX4_findRings_62 tx_22 hf (fun M15 hf => ?_)
      refine a_aload_n (pc := 63) C dX4_findRings_63 0 rfl ?_
      refine a_getR (pc := 64) C dX4_findRings_64 fl_X4_18 tx_19 rfl ?_
      refine a_aload_n (pc := 67) C dX4_findRings_67 1 rfl ?_
      refine a_getR (pc := 68) C dX4_findRings_68 fl_X4_58 hc1.1 rfl ?_
      refine a_iload_n (pc := 71) C dX4_findRings_71 2 rfl ?_
      refine a_iald (pc := 72) C dX4_findRings_72 hc1.2.2.2.2.1 hf (fun hf => ?_)
      refine a_dup2_11 (pc := 73) C dX4_findRings_73 rfl rfl ?_
      refine a_iald (pc := 74) C dX4_findRings_74 tx_22 hf (fun hf => ?_)
      refine a_iconst (pc := 75) (v := 1) C dX4_findRings_75 (by decide) ?_
      refine a_iload_n (pc := 76) C dX4_findRings_76 2 rfl ?_
      refine a_ishl (pc := 77) C dX4_findRings_77 ?_
      refine a_ior (pc := 78) C dX4_findRings_78 ?_
      refine a_iast (pc := 79) C dX4_findRings_79 tx_22 hf (fun M16 hf => ?_)
      refine a_iinc (pc := 80) (v := 1) (fun v17 => [(2, .int v17), (0, .ref (ad 19)), (1, .ref (ad c1))]) C dX4_findRings_80 2 rfl (by decide) (by decide) (fun _ => rfl) hf (fun v17 hf => ?_)
      refine a_goto (pc := 83) 38 C dX4_findRings_83 (by decide) ?_
      exact a_sub [1, 2, 0] rfl (hk38 (v17, M16) hf)
  · exact a_vret (pc := 7) C dX4_findRings_7 (Option.some.inj hf)
