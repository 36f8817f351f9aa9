theorem dX8_ofLines_0 : decode cX8_ofLines 0 = .ok (.aload_n 0, 1) := by decide +kernel
theorem dX8_ofLines_1 : decode cX8_ofLines 1 = .ok (.invokevirtual 321, 3) := by decide +kernel
theorem dX8_ofLines_4 : decode cX8_ofLines 4 = .ok (.aload_n 0, 1) := by decide +kernel
theorem dX8_ofLines_5 : decode cX8_ofLines 5 = .ok (.getfield 74, 3) := by decide +kernel
theorem dX8_ofLines_8 : decode cX8_ofLines 8 = .ok (.iconst 0, 1) := by decide +kernel
theorem dX8_ofLines_9 : decode cX8_ofLines 9 = .ok (.aload_n 0, 1) := by decide +kernel
theorem dX8_ofLines_10 : decode cX8_ofLines 10 = .ok (.invokevirtual 324, 3) := by decide +kernel
theorem dX8_ofLines_13 : decode cX8_ofLines 13 = .ok (.iastore, 1) := by decide +kernel
theorem dX8_ofLines_14 : decode cX8_ofLines 14 = .ok (.aload_n 0, 1) := by decide +kernel
theorem dX8_ofLines_15 : decode cX8_ofLines 15 = .ok (.getfield 74, 3) := by decide +kernel
theorem dX8_ofLines_18 : decode cX8_ofLines 18 = .ok (.iconst 0, 1) := by decide +kernel
theorem dX8_ofLines_19 : decode cX8_ofLines 19 = .ok (.iaload, 1) := by decide +kernel
theorem dX8_ofLines_20 : decode cX8_ofLines 20 = .ok (.iconst (-1), 1) := by decide +kernel
theorem dX8_ofLines_21 : decode cX8_ofLines 21 = .ok (.if_icmp .ne 5, 3) := by decide +kernel
theorem dX8_ofLines_24 : decode cX8_ofLines 24 = .ok (.iconst 0, 1) := by decide +kernel
theorem dX8_ofLines_25 : decode cX8_ofLines 25 = .ok (.ireturn, 1) := by decide +kernel
theorem dX8_ofLines_26 : decode cX8_ofLines 26 = .ok (.aload_n 0, 1) := by decide +kernel
theorem dX8_ofLines_27 : decode cX8_ofLines 27 = .ok (.invokevirtual 321, 3) := by decide +kernel
theorem dX8_ofLines_30 : decode cX8_ofLines 30 = .ok (.aload_n 0, 1) := by decide +kernel
theorem dX8_ofLines_31 : decode cX8_ofLines 31 = .ok (.iconst 1, 1) := by decide +kernel
theorem dX8_ofLines_32 : decode cX8_ofLines 32 = .ok (.iconst 1, 1) := by decide +kernel
theorem dX8_ofLines_33 : decode cX8_ofLines 33 = .ok (.iconst 3, 1) := by decide +kernel
theorem dX8_ofLines_34 : decode cX8_ofLines 34 = .ok (.invokevirtual 327, 3) := by decide +kernel
theorem dX8_ofLines_37 : decode cX8_ofLines 37 = .ok (.ifCond .eq 18, 3) := by decide +kernel
theorem dX8_ofLines_40 : decode cX8_ofLines 40 = .ok (.aload_n 0, 1) := by decide +kernel
theorem dX8_ofLines_41 : decode cX8_ofLines 41 = .ok (.iconst 2, 1) := by decide +kernel
theorem dX8_ofLines_42 : decode cX8_ofLines 42 = .ok (.iconst 0, 1) := by decide +kernel
theorem dX8_ofLines_43 : decode cX8_ofLines 43 = .ok (.aload_n 0, 1) := by decide +kernel
theorem dX8_ofLines_44 : decode cX8_ofLines 44 = .ok (.getfield 95, 3) := by decide +kernel
theorem dX8_ofLines_47 : decode cX8_ofLines 47 = .ok (.iconst 1, 1) := by decide +kernel
theorem dX8_ofLines_48 : decode cX8_ofLines 48 = .ok (.isub, 1) := by decide +kernel
theorem dX8_ofLines_49 : decode cX8_ofLines 49 = .ok (.invokevirtual 327, 3) := by decide +kernel
theorem dX8_ofLines_52 : decode cX8_ofLines 52 = .ok (.ifCond .ne 5, 3) := by decide +kernel
theorem dX8_ofLines_55 : decode cX8_ofLines 55 = .ok (.iconst 0, 1) := by decide +kernel
theorem dX8_ofLines_56 : decode cX8_ofLines 56 = .ok (.ireturn, 1) := by decide +kernel
theorem dX8_ofLines_57 : decode cX8_ofLines 57 = .ok (.aload_n 0, 1) := by decide +kernel
theorem dX8_ofLines_58 : decode cX8_ofLines 58 = .ok (.getfield 74, 3) := by decide +kernel
theorem dX8_ofLines_61 : decode cX8_ofLines 61 = .ok (.iconst 2, 1) := by decide +kernel
theorem dX8_ofLines_62 : decode cX8_ofLines 62 = .ok (.iaload, 1) := by decide +kernel
theorem dX8_ofLines_63 : decode cX8_ofLines 63 = .ok (.istore_n 2, 1) := by decide +kernel
theorem dX8_ofLines_64 : decode cX8_ofLines 64 = .ok (.aload_n 0, 1) := by decide +kernel
theorem dX8_ofLines_65 : decode cX8_ofLines 65 = .ok (.getfield 314, 3) := by decide +kernel
theorem dX8_ofLines_68 : decode cX8_ofLines 68 = .ok (.iconst 2, 1) := by decide +kernel
theorem dX8_ofLines_69 : decode cX8_ofLines 69 = .ok (.if_icmp .ne 41, 3) := by decide +kernel
theorem dX8_ofLines_72 : decode cX8_ofLines 72 = .ok (.iload_n 1, 1) := by decide +kernel
theorem dX8_ofLines_73 : decode cX8_ofLines 73 = .ok (.ifCond .ne 37, 3) := by decide +kernel
theorem dX8_ofLines_76 : decode cX8_ofLines 76 = .ok (.aload_n 0, 1) := by decide +kernel
theorem dX8_ofLines_77 : decode cX8_ofLines 77 = .ok (.aload_n 0, 1) := by decide +kernel
theorem dX8_ofLines_78 : decode cX8_ofLines 78 = .ok (.getfield 311, 3) := by decide +kernel
theorem dX8_ofLines_81 : decode cX8_ofLines 81 = .ok (.invokevirtual 122, 3) := by decide +kernel
theorem dX8_ofLines_84 : decode cX8_ofLines 84 = .ok (.ifCond .eq 26, 3) := by decide +kernel
theorem dX8_ofLines_87 : decode cX8_ofLines 87 = .ok (.aload_n 0, 1) := by decide +kernel
theorem dX8_ofLines_88 : decode cX8_ofLines 88 = .ok (.getfield 311, 3) := by decide +kernel
theorem dX8_ofLines_91 : decode cX8_ofLines 91 = .ok (.iload_n 2, 1) := by decide +kernel
theorem dX8_ofLines_92 : decode cX8_ofLines 92 = .ok (.if_icmp .eq 16, 3) := by decide +kernel
theorem dX8_ofLines_95 : decode cX8_ofLines 95 = .ok (.aload_n 0, 1) := by decide +kernel
theorem dX8_ofLines_96 : decode cX8_ofLines 96 = .ok (.iload_n 2, 1) := by decide +kernel
theorem dX8_ofLines_97 : decode cX8_ofLines 97 = .ok (.aload_n 0, 1) := by decide +kernel
theorem dX8_ofLines_98 : decode cX8_ofLines 98 = .ok (.getfield 311, 3) := by decide +kernel
theorem dX8_ofLines_101 : decode cX8_ofLines 101 = .ok (.invokevirtual 126, 3) := by decide +kernel
theorem dX8_ofLines_104 : decode cX8_ofLines 104 = .ok (.iconst (-1), 1) := by decide +kernel
theorem dX8_ofLines_105 : decode cX8_ofLines 105 = .ok (.if_icmp .eq 5, 3) := by decide +kernel
theorem dX8_ofLines_108 : decode cX8_ofLines 108 = .ok (.iconst 0, 1) := by decide +kernel
theorem dX8_ofLines_109 : decode cX8_ofLines 109 = .ok (.ireturn, 1) := by decide +kernel
theorem dX8_ofLines_110 : decode cX8_ofLines 110 = .ok (.aload_n 0, 1) := by decide +kernel
theorem dX8_ofLines_111 : decode cX8_ofLines 111 = .ok (.iconst 3, 1) := by decide +kernel
theorem dX8_ofLines_112 : decode cX8_ofLines 112 = .ok (.iload_n 1, 1) := by decide +kernel
theorem dX8_ofLines_113 : decode cX8_ofLines 113 = .ok (.ifCond .eq 9, 3) := by decide +kernel
theorem dX8_ofLines_116 : decode cX8_ofLines 116 = .ok (.iload_n 2, 1) := by decide +kernel
theorem dX8_ofLines_117 : decode cX8_ofLines 117 = .ok (.iconst 1, 1) := by decide +kernel
theorem dX8_ofLines_118 : decode cX8_ofLines 118 = .ok (.iadd, 1) := by decide +kernel
theorem dX8_ofLines_119 : decode cX8_ofLines 119 = .ok (.goto 4, 3) := by decide +kernel
theorem dX8_ofLines_122 : decode cX8_ofLines 122 = .ok (.iconst 0, 1) := by decide +kernel
theorem dX8_ofLines_123 : decode cX8_ofLines 123 = .ok (.aload_n 0, 1) := by decide +kernel
theorem dX8_ofLines_124 : decode cX8_ofLines 124 = .ok (.getfield 95, 3) := by decide +kernel
theorem dX8_ofLines_127 : decode cX8_ofLines 127 = .ok (.iconst 1, 1) := by decide +kernel
theorem dX8_ofLines_128 : decode cX8_ofLines 128 = .ok (.isub, 1) := by decide +kernel
theorem dX8_ofLines_129 : decode cX8_ofLines 129 = .ok (.invokevirtual 327, 3) := by decide +kernel
theorem dX8_ofLines_132 : decode cX8_ofLines 132 = .ok (.ifCond .ne 5, 3) := by decide +kernel
theorem dX8_ofLines_135 : decode cX8_ofLines 135 = .ok (.iconst 0, 1) := by decide +kernel
theorem dX8_ofLines_136 : decode cX8_ofLines 136 = .ok (.ireturn, 1) := by decide +kernel
theorem dX8_ofLines_137 : decode cX8_ofLines 137 = .ok (.iload_n 1, 1) := by decide +kernel
theorem dX8_ofLines_138 : decode cX8_ofLines 138 = .ok (.ifCond .ne 28, 3) := by decide +kernel
theorem dX8_ofLines_141 : decode cX8_ofLines 141 = .ok (.aload_n 0, 1) := by decide +kernel
theorem dX8_ofLines_142 : decode cX8_ofLines 142 = .ok (.aload_n 0, 1) := by decide +kernel
theorem dX8_ofLines_143 : decode cX8_ofLines 143 = .ok (.getfield 74, 3) := by decide +kernel
theorem dX8_ofLines_146 : decode cX8_ofLines 146 = .ok (.iconst 0, 1) := by decide +kernel
theorem dX8_ofLines_147 : decode cX8_ofLines 147 = .ok (.iaload, 1) := by decide +kernel
theorem dX8_ofLines_148 : decode cX8_ofLines 148 = .ok (.aload_n 0, 1) := by decide +kernel
theorem dX8_ofLines_149 : decode cX8_ofLines 149 = .ok (.getfield 74, 3) := by decide +kernel
theorem dX8_ofLines_152 : decode cX8_ofLines 152 = .ok (.iconst 1, 1) := by decide +kernel
theorem dX8_ofLines_153 : decode cX8_ofLines 153 = .ok (.iaload, 1) := by decide +kernel
theorem dX8_ofLines_154 : decode cX8_ofLines 154 = .ok (.iload_n 2, 1) := by decide +kernel
theorem dX8_ofLines_155 : decode cX8_ofLines 155 = .ok (.aload_n 0, 1) := by decide +kernel
theorem dX8_ofLines_156 : decode cX8_ofLines 156 = .ok (.getfield 74, 3) := by decide +kernel
theorem dX8_ofLines_159 : decode cX8_ofLines 159 = .ok (.iconst 3, 1) := by decide +kernel
theorem dX8_ofLines_160 : decode cX8_ofLines 160 = .ok (.iaload, 1) := by decide +kernel
theorem dX8_ofLines_161 : decode cX8_ofLines 161 = .ok (.invokevirtual 130, 3) := by decide +kernel
theorem dX8_ofLines_164 : decode cX8_ofLines 164 = .ok (.iconst 1, 1) := by decide +kernel
theorem dX8_ofLines_165 : decode cX8_ofLines 165 = .ok (.ireturn, 1) := by decide +kernel
theorem dX8_ofLines_166 : decode cX8_ofLines 166 = .ok (.iload_n 2, 1) := by decide +kernel
theorem dX8_ofLines_167 : decode cX8_ofLines 167 = .ok (.istore_n 3, 1) := by decide +kernel
theorem dX8_ofLines_168 : decode cX8_ofLines 168 = .ok (.iload_n 3, 1) := by decide +kernel
theorem dX8_ofLines_169 : decode cX8_ofLines 169 = .ok (.aload_n 0, 1) := by decide +kernel
theorem dX8_ofLines_170 : decode cX8_ofLines 170 = .ok (.getfield 74, 3) := by decide +kernel
theorem dX8_ofLines_173 : decode cX8_ofLines 173 = .ok (.iconst 3, 1) := by decide +kernel
theorem dX8_ofLines_174 : decode cX8_ofLines 174 = .ok (.iaload, 1) := by decide +kernel
theorem dX8_ofLines_175 : decode cX8_ofLines 175 = .ok (.if_icmp .gt 91, 3) := by decide +kernel
theorem dX8_ofLines_178 : decode cX8_ofLines 178 = .ok (.iload_n 3, 1) := by decide +kernel
theorem dX8_ofLines_179 : decode cX8_ofLines 179 = .ok (.aload_n 0, 1) := by decide +kernel
theorem dX8_ofLines_180 : decode cX8_ofLines 180 = .ok (.getfield 74, 3) := by decide +kernel
theorem dX8_ofLines_183 : decode cX8_ofLines 183 = .ok (.iconst 3, 1) := by decide +kernel
theorem dX8_ofLines_184 : decode cX8_ofLines 184 = .ok (.iaload, 1) := by decide +kernel
theorem dX8_ofLines_185 : decode cX8_ofLines 185 = .ok (.if_icmp .ne 7, 3) := by decide +kernel
theorem dX8_ofLines_188 : decode cX8_ofLines 188 = .ok (.iload_n 2, 1) := by decide +kernel
theorem dX8_ofLines_189 : decode cX8_ofLines 189 = .ok (.goto 4, 3) := by decide +kernel
theorem dX8_ofLines_192 : decode cX8_ofLines 192 = .ok (.iload_n 3, 1) := by decide +kernel
theorem dX8_ofLines_193 : decode cX8_ofLines 193 = .ok (.istore 4, 2) := by decide +kernel
theorem dX8_ofLines_195 : decode cX8_ofLines 195 = .ok (.iload_n 3, 1) := by decide +kernel
theorem dX8_ofLines_196 : decode cX8_ofLines 196 = .ok (.aload_n 0, 1) := by decide +kernel
theorem dX8_ofLines_197 : decode cX8_ofLines 197 = .ok (.getfield 74, 3) := by decide +kernel
theorem dX8_ofLines_200 : decode cX8_ofLines 200 = .ok (.iconst 3, 1) := by decide +kernel
theorem dX8_ofLines_201 : decode cX8_ofLines 201 = .ok (.iaload, 1) := by decide +kernel
theorem dX8_ofLines_202 : decode cX8_ofLines 202 = .ok (.if_icmp .ne 12, 3) := by decide +kernel
theorem dX8_ofLines_205 : decode cX8_ofLines 205 = .ok (.aload_n 0, 1) := by decide +kernel
theorem dX8_ofLines_206 : decode cX8_ofLines 206 = .ok (.getfield 74, 3) := by decide +kernel
theorem dX8_ofLines_209 : decode cX8_ofLines 209 = .ok (.iconst 3, 1) := by decide +kernel
theorem dX8_ofLines_210 : decode cX8_ofLines 210 = .ok (.iaload, 1) := by decide +kernel
theorem dX8_ofLines_211 : decode cX8_ofLines 211 = .ok (.goto 6, 3) := by decide +kernel
theorem dX8_ofLines_214 : decode cX8_ofLines 214 = .ok (.iload_n 3, 1) := by decide +kernel
theorem dX8_ofLines_215 : decode cX8_ofLines 215 = .ok (.iconst 1, 1) := by decide +kernel
theorem dX8_ofLines_216 : decode cX8_ofLines 216 = .ok (.iadd, 1) := by decide +kernel
theorem dX8_ofLines_217 : decode cX8_ofLines 217 = .ok (.istore 5, 2) := by decide +kernel
theorem dX8_ofLines_219 : decode cX8_ofLines 219 = .ok (.aload_n 0, 1) := by decide +kernel
theorem dX8_ofLines_220 : decode cX8_ofLines 220 = .ok (.iload 4, 2) := by decide +kernel
theorem dX8_ofLines_222 : decode cX8_ofLines 222 = .ok (.iload 5, 2) := by decide +kernel
theorem dX8_ofLines_224 : decode cX8_ofLines 224 = .ok (.invokevirtual 126, 3) := by decide +kernel
theorem dX8_ofLines_227 : decode cX8_ofLines 227 = .ok (.iconst (-1), 1) := by decide +kernel
theorem dX8_ofLines_228 : decode cX8_ofLines 228 = .ok (.if_icmp .ne 32, 3) := by decide +kernel
theorem dX8_ofLines_231 : decode cX8_ofLines 231 = .ok (.aload_n 0, 1) := by decide +kernel
theorem dX8_ofLines_232 : decode cX8_ofLines 232 = .ok (.getfield 102, 3) := by decide +kernel
theorem dX8_ofLines_235 : decode cX8_ofLines 235 = .ok (.bipush 10, 2) := by decide +kernel
theorem dX8_ofLines_237 : decode cX8_ofLines 237 = .ok (.if_icmp .ge 23, 3) := by decide +kernel
theorem dX8_ofLines_240 : decode cX8_ofLines 240 = .ok (.aload_n 0, 1) := by decide +kernel
theorem dX8_ofLines_241 : decode cX8_ofLines 241 = .ok (.aload_n 0, 1) := by decide +kernel
theorem dX8_ofLines_242 : decode cX8_ofLines 242 = .ok (.getfield 74, 3) := by decide +kernel
theorem dX8_ofLines_245 : decode cX8_ofLines 245 = .ok (.iconst 0, 1) := by decide +kernel
theorem dX8_ofLines_246 : decode cX8_ofLines 246 = .ok (.iaload, 1) := by decide +kernel
theorem dX8_ofLines_247 : decode cX8_ofLines 247 = .ok (.aload_n 0, 1) := by decide +kernel
theorem dX8_ofLines_248 : decode cX8_ofLines 248 = .ok (.getfield 74, 3) := by decide +kernel
theorem dX8_ofLines_251 : decode cX8_ofLines 251 = .ok (.iconst 1, 1) := by decide +kernel
theorem dX8_ofLines_252 : decode cX8_ofLines 252 = .ok (.iaload, 1) := by decide +kernel
theorem dX8_ofLines_253 : decode cX8_ofLines 253 = .ok (.iload 4, 2) := by decide +kernel
theorem dX8_ofLines_255 : decode cX8_ofLines 255 = .ok (.iload 5, 2) := by decide +kernel
theorem dX8_ofLines_257 : decode cX8_ofLines 257 = .ok (.invokevirtual 130, 3) := by decide +kernel
theorem dX8_ofLines_260 : decode cX8_ofLines 260 = .ok (.iinc 3 1, 3) := by decide +kernel
theorem dX8_ofLines_263 : decode cX8_ofLines 263 = .ok (.goto (-95), 3) := by decide +kernel
theorem dX8_ofLines_266 : decode cX8_ofLines 266 = .ok (.iconst 1, 1) := by decide +kernel
theorem dX8_ofLines_267 : decode cX8_ofLines 267 = .ok (.ireturn, 1) := by decide +kernel
def f_X8_ofLines (N : Nat) (x1 : Int32) (M : Mem) : Option (Int32 × Mem) := bd (f_X8_goes N  M) (fun M2 => bd (f_X8_kindRead N  M2) (fun v3 => ck (inb (0 : Int32) 4) (nm (setI M2 19 (0 : Int32).toNatClampNeg v3) (fun M5 => ck (inb (0 : Int32) 4) (if (M5.1 19 (0 : Int32).toNatClampNeg) = (-1 : Int32) then (some ((0 : Int32), M5)) else (bd (f_X8_goes N  M5) (fun M7 => bd (f_X8_isRead N (1 : Int32) (1 : Int32) (3 : Int32) M7) (fun w10 => if w10.1 = 0 then (some ((0 : Int32), w10.2)) else (bd (f_X8_isRead N (2 : Int32) (0 : Int32) ((w10.2.1 0 0) - (1 : Int32)) w10.2) (fun w13 => if w13.1 = 0 then (some ((0 : Int32), w13.2)) else (ck (inb (2 : Int32) 4) (nm (w13.2.1 19 (2 : Int32).toNatClampNeg) (fun v14 => jn (fun (a110 : Unit) => jn (fun (a123 : Int32) => bd (f_X8_isRead N (3 : Int32) a123 ((w13.2.1 0 0) - (1 : Int32)) w13.2) (fun w17 => if w17.1 = 0 then (some ((0 : Int32), w17.2)) else (if x1 = 0 then (ck (inb (0 : Int32) 4) (ck (inb (1 : Int32) 4) (ck (inb (3 : Int32) 4) (bd (f_X8_lineComes N (w17.2.1 19 (0 : Int32).toNatClampNeg) (w17.2.1 19 (1 : Int32).toNatClampNeg) v14 (w17.2.1 19 (3 : Int32).toNatClampNeg) w17.2) (fun M24 => some ((1 : Int32), M24)))))) else (lp (fun (k168 : (Int32 × Mem) → Option (Int32 × Mem)) (a168 : Int32 × Mem) => ck (inb (3 : Int32) 4) (if (a168.2.1 19 (3 : Int32).toNatClampNeg) < a168.1 then (some ((1 : Int32), a168.2)) else (ck (inb (3 : Int32) 4) (jn (fun (a193 : Int32) => ck (inb (3 : Int32) 4) (jn (fun (a217 : Int32) => bd (f_X8_between N a193 a217 a168.2) (fun v18 => jn (fun (a260 : Mem) => nm (a168.1 + (1 : Int32)) (fun v20 => k168 (v20, a260))) (fun (k260 : Mem → Option (Int32 × Mem)) => if v18 = (-1 : Int32) then (if (10 : Int32) ≤ (a168.2.1 0 1) then (k260 a168.2) else (ck (inb (0 : Int32) 4) (ck (inb (1 : Int32) 4) (bd (f_X8_lineComes N (a168.2.1 19 (0 : Int32).toNatClampNeg) (a168.2.1 19 (1 : Int32).toNatClampNeg) a193 a217 a168.2) (fun M22 => k260 M22))))) else (k260 a168.2)))) (fun (k217 : Int32 → Option (Int32 × Mem)) => if a168.1 = (a168.2.1 19 (3 : Int32).toNatClampNeg) then (ck (inb (3 : Int32) 4) (k217 (a168.2.1 19 (3 : Int32).toNatClampNeg))) else (k217 (a168.1 + (1 : Int32)))))) (fun (k193 : Int32 → Option (Int32 × Mem)) => if a168.1 = (a168.2.1 19 (3 : Int32).toNatClampNeg) then (k193 v14) else (k193 a168.1)))))) N (v14, w17.2))))) (fun (k123 : Int32 → Option (Int32 × Mem)) => if x1 = 0 then (k123 (0 : Int32)) else (k123 (v14 + (1 : Int32))))) (fun (k110 : Unit → Option (Int32 × Mem)) => if (w13.2.1 0 34) = (2 : Int32) then (if x1 = 0 then (bd (f_X8_isPoint N (w13.2.1 0 35) w13.2) (fun v25 => if v25 = 0 then (k110 ()) else (if (w13.2.1 0 35) = v14 then (some ((0 : Int32), w13.2)) else (bd (f_X8_between N v14 (w13.2.1 0 35) w13.2) (fun v27 => if v27 = (-1 : Int32) then (k110 ()) else (some ((0 : Int32), w13.2))))))) else (k110 ())) else (k110 ())))))))))))))))
set_option maxRecDepth 100000 in
set_option maxHeartbeats 4000000 in
theorem c_X8_ofLines {l : Launch} {D : va_G} {ac : Nat → ClassId} {A : Nat → Prop} {ad : Nat → Nat} {rest : va_W} (N : Nat) (x1 : Int32)  (M : Mem) (r0 : Int32) (M0 : Mem) (hf : f_X8_ofLines N x1 M = some (r0, M0)) : CtI l D ac A tabM ad rest yX8_ofLines cX8_ofLines 6 .boolean 5 [.ref (ad 0), .int x1] M r0 M0 := by
  refine ct_ofI (own := RX8) (by decide +kernel) rfl (Nat.le_of_ble_eq_true rfl) ?_
  intro p e s m args below meth c C
  unfold f_X8_ofLines at hf
  refine a_L (L' := [(0, .ref (ad 0)), (1, .int x1)]) rfl ?_
  refine a_aload_n (pc := 0) C dX8_ofLines_0 0 rfl ?_
  refine a_callV_V (pc := 1) (d' := 3) C dX8_ofLines_1 ml_X8_321 mc_X8_goes mv_X8_goes tm_0 rfl [] rfl (Nat.le_of_ble_eq_true rfl) (Nat.le_of_ble_eq_true rfl) rfl (Nat.le_of_ble_eq_true rfl) (fun M' h => c_X8_goes N   _  M' h) hf (fun M2 hf => ?_)
  refine a_aload_n (pc := 4) C dX8_ofLines_4 0 rfl ?_
  refine a_getR (pc := 5) C dX8_ofLines_5 fl_X8_74 tm_0 rfl ?_
  refine a_iconst (pc := 8) (v := 0) C dX8_ofLines_8 (by decide) ?_
  refine a_aload_n (pc := 9) C dX8_ofLines_9 0 rfl ?_
  refine a_callV_Ir (pc := 10) (d' := 2) C dX8_ofLines_10 ml_X8_324 mc_X8_kindRead mv_X8_kindRead tm_0 rfl [] rfl (Nat.le_of_ble_eq_true rfl) (Nat.le_of_ble_eq_true rfl) rfl (Nat.le_of_ble_eq_true rfl) (fun r h => c_X8_kindRead N   _  r h) hf (fun v3 hf => ?_)
  refine a_iast (pc := 13) C dX8_ofLines_13 tm_19 hf (fun M5 hf => ?_)
  refine a_aload_n (pc := 14) C dX8_ofLines_14 0 rfl ?_
  refine a_getR (pc := 15) C dX8_ofLines_15 fl_X8_74 tm_0 rfl ?_
  refine a_iconst (pc := 18) (v := 0) C dX8_ofLines_18 (by decide) ?_
  refine a_iald (pc := 19) C dX8_ofLines_19 tm_19 hf (fun hf => ?_)
  refine a_iconst (pc := 20) (v := (-1)) C dX8_ofLines_20 (by decide) ?_
  refine a_icmp_ne (pc := 21) 26 C dX8_ofLines_21 (by decide) hf (fun hf => ?_) (fun hf => ?_)
  · refine a_aload_n (pc := 26) C dX8_ofLines_26 0 rfl ?_
    refine a_callV_V (pc := 27) (d' := 3) C dX8_ofLines_27 ml_X8_321 mc_X8_goes mv_X8_goes tm_0 rfl [] rfl (Nat.le_of_ble_eq_true rfl) (Nat.le_of_ble_eq_true rfl) rfl (Nat.le_of_ble_eq_true rfl) (fun M' h => c_X8_goes N   _  M' h) hf (fun M7 hf => ?_)
    refine a_aload_n (pc := 30) C dX8_ofLines_30 0 rfl ?_
    refine a_iconst (pc := 31) (v := 1) C dX8_ofLines_31 (by decide) ?_
    refine a_iconst (pc := 32) (v := 1) C dX8_ofLines_32 (by decide) ?_
    refine a_iconst (pc := 33) (v := 3) C dX8_ofLines_33 (by decide) ?_
    refine a_callV_I (pc := 34) (d' := 4) C dX8_ofLines_34 ml_X8_327 mc_X8_isRead mv_X8_isRead tm_0 rfl [.int (1 : Int32), .int (1 : Int32), .int (3 : Int32)] rfl (Nat.le_of_ble_eq_true rfl) (Nat.le_of_ble_eq_true rfl) rfl (Nat.le_of_ble_eq_true rfl) (fun r M' h => c_X8_isRead N (1 : Int32) (1 : Int32) (3 : Int32)  _  r M' h) hf (fun v8 M9 hf => ?_)
    refine a_if_eq (pc := 37) 55 C dX8_ofLines_37 (by decide) hf (fun hf => ?_) (fun hf => ?_)
    · refine a_iconst (pc := 55) (v := 0) C dX8_ofLines_55 (by decide) ?_
      exact a_zret (pc := 56) C dX8_ofLines_56 (Or.inl rfl) (so_1 hf) (so_2 hf)
    · refine a_aload_n (pc := 40) C dX8_ofLines_40 0 rfl ?_
      refine a_iconst (pc := 41) (v := 2) C dX8_ofLines_41 (by decide) ?_
      refine a_iconst (pc := 42) (v := 0) C dX8_ofLines_42 (by decide) ?_
      refine a_aload_n (pc := 43) C dX8_ofLines_43 0 rfl ?_
      refine a_getI (pc := 44) C dX8_ofLines_44 fl_X8_95 tm_0 rfl ?_
      refine a_iconst (pc := 47) (v := 1) C dX8_ofLines_47 (by decide) ?_
      refine a_isub (pc := 48) C dX8_ofLines_48 ?_
      refine a_callV_I (pc := 49) (d' := 4) C dX8_ofLines_49 ml_X8_327 mc_X8_isRead mv_X8_isRead tm_0 rfl [.int (2 : Int32), .int (0 : Int32), .int ((M9.1 0 0) - (1 : Int32))] rfl (Nat.le_of_ble_eq_true rfl) (Nat.le_of_ble_eq_true rfl) rfl (Nat.le_of_ble_eq_true rfl) (fun r M' h => c_X8_isRead N (2 : Int32) (0 : Int32) ((M9.1 0 0) - (1 : Int32))  _  r M' h) hf (fun v11 M12 hf => ?_)
      refine a_if_ne (pc := 52) 57 C dX8_ofLines_52 (by decide) hf (fun hf => ?_) (fun hf => ?_)
      · refine a_aload_n (pc := 57) C dX8_ofLines_57 0 rfl ?_
        refine a_getR (pc := 58) C dX8_ofLines_58 fl_X8_74 tm_0 rfl ?_
        refine a_iconst (pc := 61) (v := 2) C dX8_ofLines_61 (by decide) ?_
        refine a_iald (pc := 62) C dX8_ofLines_62 tm_19 hf (fun hf => ?_)
        refine a_nmi hf (fun v14 hf => ?_)
        refine a_istore_n (pc := 63) [(2, .int v14), (0, .ref (ad 0)), (1, .int x1)] C dX8_ofLines_63 (by decide) rfl ?_
        refine a_aload_n (pc := 64) C dX8_ofLines_64 1 rfl ?_
        refine a_getI (pc := 65) C dX8_ofLines_65 fl_X8_314 tm_0 rfl ?_
        refine a_iconst (pc := 68) (v := 2) C dX8_ofLines_68 (by decide) ?_
        refine a_jn 110 (fun a110 : Unit => [(0, .ref (ad 0)), (1, .int x1), (2, .int v14)]) (fun a110 : Unit => []) (fun a110 : Unit => M12) hf (fun a110 hf => ?_) (fun k110 hk110 hf => ?_)
        · refine a_aload_n (pc := 110) C dX8_ofLines_110 0 rfl ?_
          refine a_iconst (pc := 111) (v := 3) C dX8_ofLines_111 (by decide) ?_
          refine a_iload_n (pc := 112) C dX8_ofLines_112 1 rfl ?_
          refine a_jn 123 (fun a123 : Int32 => [(0, .ref (ad 0)), (1, .int x1), (2, .int v14)]) (fun a123 : Int32 => [.int a123, .int (3 : Int32), .ref (ad 0)]) (fun a123 : Int32 => M12) hf (fun a123 hf => ?_) (fun k123 hk123 hf => ?_)
          · refine a_aload_n (pc := 123) C dX8_ofLines_123 0 rfl ?_
            refine a_getI (pc := 124) C dX8_ofLines_124 fl_X8_95 tm_0 rfl ?_
            refine a_iconst (pc := 127) (v := 1) C dX8_ofLines_127 (by decide) ?_
            refine a_isub (pc := 128) C dX8_ofLines_128 ?_
            refine a_callV_I (pc := 129) (d' := 4) C dX8_ofLines_129 ml_X8_327 mc_X8_isRead mv_X8_isRead tm_0 rfl [.int (3 : Int32), .int a123, .int ((M12.1 0 0) - (1 : Int32))] rfl (Nat.le_of_ble_eq_true rfl) (Nat.le_of_ble_eq_true rfl) rfl (Nat.le_of_ble_eq_true rfl) (fun r M' h => c_X8_isRead N (3 : Int32) a123 ((M12.1 0 0) - (1 : Int32))  _  r M' h) hf (fun v15 M16 hf => ?_)
            refine a_if_ne (pc := 132) 137 C dX8_ofLines_132 (by decide) hf (fun hf => ?_) (fun hf => ?_)
            · refine a_iload_n (pc := 137) C dX8_ofLines_137 1 rfl ?_
              refine a_if_ne (pc := 138) 166 C dX8_ofLines_138 (by decide) hf (fun hf => ?_) (fun hf => ?_)
              · refine a_iload_n (pc := 166) C dX8_ofLines_166 2 rfl ?_
                refine a_istore_n (pc := 167) [(3, .int v14), (0, .ref (ad 0)), (1, .int x1), (2, .int v14)] C dX8_ofLines_167 (by decide) rfl ?_
                refine a_sub [1, 3, 0] rfl ?_
                refine a_lp 168 (fun a168 : Int32 × Mem => [(0, .ref (ad 0)), (2, .int v14), (3, .int a168.1)]) (fun a168 : Int32 × Mem => []) (fun a168 : Int32 × Mem => a168.2) (fun k168 a168 hk168 hf => ?_) N (v14, M16) hf
                refine a_iload_n (pc := 168) C dX8_ofLines_168 2 rfl ?_
                refine a_aload_n (pc := 169) C dX8_ofLines_169 0 rfl ?_
                refine a_getR (pc := 170) C dX8_ofLines_170 fl_X8_74 tm_0 rfl ?_
                refine a_iconst (pc := 173) (v := 3) C dX8_ofLines_173 (by decide) ?_
                refine a_iald (pc := 174) C dX8_ofLines_174 tm_19 hf (fun hf => ?_)
                refine a_icmp_gt (pc := 175) 266 C dX8_ofLines_175 (by decide) hf (fun hf => ?_) (fun hf => ?_)
                · refine a_iconst (pc := 266) (v := 1) C dX8_ofLines_266 (by decide) ?_
                  exact a_zret (pc := 267) C dX8_ofLines_267 (Or.inr rfl) (so_1 hf) (so_2 hf)
                · refine a_iload_n (pc := 178) C dX8_ofLines_178 2 rfl ?_
                  refine a_aload_n (pc := 179) C dX8_ofLines_179 0 rfl ?_
                  refine a_getR (pc := 180) C dX8_ofLines_180 fl_X8_74 tm_0 rfl ?_
                  refine a_iconst (pc := 183) (v := 3) C dX8_ofLines_183 (by decide) ?_
                  refine a_iald (pc := 184) C dX8_ofLines_184 tm_19 hf (fun hf => ?_)
                  refine a_jn 193 (fun a193 : Int32 => [(0, .ref (ad 0)), (2, .int v14), (3, .int a168.1)]) (fun a193 : Int32 => [.int a193]) (fun a193 : Int32 => a168.2) hf (fun a193 hf => ?_) (fun k193 hk193 hf => ?_)
                  · refine a_istore (pc := 193) [(4, .int a193), (0, .ref (ad 0)), (2, .int v14), (3, .int a168.1)] C dX8_ofLines_193 (by decide) rfl ?_
                    refine a_iload_n (pc := 195) C dX8_ofLines_195 3 rfl ?_
                    refine a_aload_n (pc := 196) C dX8_ofLines_196 1 rfl ?_
                    refine a_getR (pc := 197) C dX8_ofLines_197 fl_X8_74 tm_0 rfl ?_
                    refine a_iconst (pc := 200) (v := 3) C dX8_ofLines_200 (by decide) ?_
                    refine a_iald (pc := 201) C dX8_ofLines_201 tm_19 hf (fun hf => ?_)
                    refine a_jn 217 (fun a217 : Int32 => [(0, .ref (ad 0)), (2, .int v14), (3, .int a168.1), (4, .int a193)]) (fun a217 : Int32 => [.int a217]) (fun a217 : Int32 => a168.2) hf (fun a217 hf => ?_) (fun k217 hk217 hf => ?_)
                    · refine a_istore (pc := 217) [(5, .int a217), (0, .ref (ad 0)), (2, .int v14), (3, .int a168.1), (4, .int a193)] C dX8_ofLines_217 (by decide) rfl ?_
                      refine a_aload_n (pc := 219) C dX8_ofLines_219 1 rfl ?_
                      refine a_iload (pc := 220) C dX8_ofLines_220 4 rfl ?_
                      refine a_iload (pc := 222) C dX8_ofLines_222 0 rfl ?_
                      refine a_callV_Ir (pc := 224) (d' := 1) C dX8_ofLines_224 ml_X8_126 mc_X8_between mv_X8_between tm_0 rfl [.int a193, .int a217] rfl (Nat.le_of_ble_eq_true rfl) (Nat.le_of_ble_eq_true rfl) rfl (Nat.le_of_ble_eq_true rfl) (fun r h => c_X8_between N a193 a217  _  r h) hf (fun v18 hf => ?_)
                      refine a_iconst (pc := 227) (v := (-1)) C dX8_ofLines_227 (by decide) ?_
                      refine a_jn 260 (fun a260 : Mem => [(0, .ref (ad 0)), (2, .int v14), (3, .int a168.1)]) (fun a260 : Mem => []) (fun a260 : Mem => a260) hf (fun a260 hf => ?_) (fun k260 hk260 hf => ?_)
                      · refine a_iinc (pc := 260) (v := 1) (fun v20 => [(3, .int v20), (0, .ref (ad 0)), (2, .int v14)]) C dX8_ofLines_260 2 rfl (by decide) (by decide) (fun _ => rfl) hf (fun v20 hf => ?_)
                        refine a_goto (pc := 263) 168 C dX8_ofLines_263 (by decide) ?_
                        exact a_sub [1, 2, 0] rfl (hk168 (v20, a260) hf)
                      · refine a_icmp_ne (pc := 228) 260 C dX8_ofLines_228 (by decide) hf (fun hf => ?_) (fun hf => ?_)
                        · exact a_sub [1, 2, 3] rfl (hk260 a168.2 hf)
                        · refine a_aload_n (pc := 231) C dX8_ofLines_231 1 rfl ?_
                          refine a_getI (pc := 232) C dX8_ofLines_232 fl_X8_102 tm_0 rfl ?_
                          refine a_bipush (pc := 235) (v := 10) C dX8_ofLines_235 (by decide) ?_
                          refine a_icmp_ge (pc := 237) 260 C dX8_ofLines_237 (by decide) hf (fun hf => ?_) (fun hf => ?_)
                          · exact a_sub [1, 2, 3] rfl (hk260 a168.2 hf)
                          · refine a_aload_n (pc := 240) C dX8_ofLines_240 1 rfl ?_
                            refine a_aload_n (pc := 241) C dX8_ofLines_241 1 rfl ?_
                            refine a_getR (pc := 242) C dX8_ofLines_242 fl_X8_74 tm_0 rfl ?_
                            refine a_iconst (pc := 245) (v := 0) C dX8_ofLines_245 (by decide) ?_
                            refine a_iald (pc := 246) C dX8_ofLines_246 tm_19 hf (fun hf => ?_)
                            refine a_aload_n (pc := 247) C dX8_ofLines_247 1 rfl ?_
                            refine a_getR (pc := 248) C dX8_ofLines_248 fl_X8_74 tm_0 rfl ?_
                            refine a_iconst (pc := 251) (v := 1) C dX8_ofLines_251 (by decide) ?_
                            refine a_iald (pc := 252) C dX8_ofLines_252 tm_19 hf (fun hf => ?_)
                            refine a_iload (pc := 253) C dX8_ofLines_253 4 rfl ?_
                            refine a_iload (pc := 255) C dX8_ofLines_255 0 rfl ?_
                            refine a_callV_V (pc := 257) (d' := 1) C dX8_ofLines_257 ml_X8_130 mc_X8_lineComes mv_X8_lineComes tm_0 rfl [.int (a168.2.1 19 (0 : Int32).toNatClampNeg), .int (a168.2.1 19 (1 : Int32).toNatClampNeg), .int a193, .int a217] rfl (Nat.le_of_ble_eq_true rfl) (Nat.le_of_ble_eq_true rfl) rfl (Nat.le_of_ble_eq_true rfl) (fun M' h => c_X8_lineComes N (a168.2.1 19 (0 : Int32).toNatClampNeg) (a168.2.1 19 (1 : Int32).toNatClampNeg) a193 a217  _  M' h) hf (fun M22 hf => ?_)
                            exact a_sub [1, 2, 3] rfl (hk260 M22 hf)
                    · refine a_icmp_ne (pc := 202) 214 C dX8_ofLines_202 (by decide) hf (fun hf => ?_) (fun hf => ?_)
                      · refine a_iload_n (pc := 214) C dX8_ofLines_214 3 rfl ?_
                        refine a_iconst (pc := 215) (v := 1) C dX8_ofLines_215 (by decide) ?_
                        refine a_iadd (pc := 216) C dX8_ofLines_216 ?_
                        exact a_sub [1, 2, 3, 0] rfl (hk217 (a168.1 + (1 : Int32)) hf)
                      · refine a_aload_n (pc := 205) C dX8_ofLines_205 1 rfl ?_
                        refine a_getR (pc := 206) C dX8_ofLines_206 fl_X8_74 tm_0 rfl ?_
                        refine a_iconst (pc := 209) (v := 3) C dX8_ofLines_209 (by decide) ?_
                        refine a_iald (pc := 210) C dX8_ofLines_210 tm_19 hf (fun hf => ?_)
                        refine a_goto (pc := 211) 217 C dX8_ofLines_211 (by decide) ?_
                        exact a_sub [1, 2, 3, 0] rfl (hk217 (a168.2.1 19 (3 : Int32).toNatClampNeg) hf)
                  · refine a_icmp_ne (pc := 185) 192 C dX8_ofLines_185 (by decide) hf (fun hf => ?_) (fun hf => ?_)
                    · refine a_iload_n (pc := 192) C dX8_ofLines_192 2 rfl ?_
                      exact a_sub [0, 1, 2] rfl (hk193 a168.1 hf)
                    · refine a_iload_n (pc := 188) C dX8_ofLines_188 1 rfl ?_
                      refine a_goto (pc := 189) 193 C dX8_ofLines_189 (by decide) ?_
                      exact a_sub [0, 1, 2] rfl (hk193 v14 hf)
              · refine a_aload_n (pc := 141) C dX8_ofLines_141 0 rfl ?_
                refine a_aload_n (pc := 142) C dX8_ofLines_142 0 rfl ?_
                refine a_getR (pc := 143) C dX8_ofLines_143 fl_X8_74 tm_0 rfl ?_
                refine a_iconst (pc := 146) (v := 0) C dX8_ofLines_146 (by decide) ?_
                refine a_iald (pc := 147) C dX8_ofLines_147 tm_19 hf (fun hf => ?_)
                refine a_aload_n (pc := 148) C dX8_ofLines_148 0 rfl ?_
                refine a_getR (pc := 149) C dX8_ofLines_149 fl_X8_74 tm_0 rfl ?_
                refine a_iconst (pc := 152) (v := 1) C dX8_ofLines_152 (by decide) ?_
                refine a_iald (pc := 153) C dX8_ofLines_153 tm_19 hf (fun hf => ?_)
                refine a_iload_n (pc := 154) C dX8_ofLines_154 2 rfl ?_
                refine a_aload_n (pc := 155) C dX8_ofLines_155 0 rfl ?_
                refine a_getR (pc := 156) C dX8_ofLines_156 fl_X8_74 tm_0 rfl ?_
                refine a_iconst (pc := 159) (v := 3) C dX8_ofLines_159 (by decide) ?_
                refine a_iald (pc := 160) C dX8_ofLines_160 tm_19 hf (fun hf => ?_)
                refine a_callV_V (pc := 161) (d' := 1) C dX8_ofLines_161 ml_X8_130 mc_X8_lineComes mv_X8_lineComes tm_0 rfl [.int (M16.1 19 (0 : Int32).toNatClampNeg), .int (M16.1 19 (1 : Int32).toNatClampNeg), .int v14, .int (M16.1 19 (3 : Int32).toNatClampNeg)] rfl (Nat.le_of_ble_eq_true rfl) (Nat.le_of_ble_eq_true rfl) rfl (Nat.le_of_ble_eq_true rfl) (fun M' h => c_X8_lineComes N (M16.1 19 (0 : Int32).toNatClampNeg) (M16.1 19 (1 : Int32).toNatClampNeg) v14 (M16.1 19 (3 : Int32).toNatClampNeg)  _  M' h) hf (fun M24 hf => ?_)
                refine a_iconst (pc := 164) (v := 1) C dX8_ofLines_164 (by decide) ?_
                exact a_zret (pc := 165) C dX8_ofLines_165 (Or.inr rfl) (so_1 hf) (so_2 hf)
            · refine a_iconst (pc := 135) (v := 0) C dX8_ofLines_135 (by decide) ?_
              exact a_zret (pc := 136) C dX8_ofLines_136 (Or.inl rfl) (so_1 hf) (so_2 hf)
          · refine a_if_eq (pc := 113) 122 C dX8_ofLines_113 (by decide) hf (fun hf => ?_) (fun hf => ?_)
            · refine a_iconst (pc := 122) (v := 0) C dX8_ofLines_122 (by decide) ?_
              exact a_sub [0, 1, 2] rfl (hk123 (0 : Int32) hf)
            · refine a_iload_n (pc := 116) C dX8_ofLines_116 2 rfl ?_
              refine a_iconst (pc := 117) (v := 1) C dX8_ofLines_117 (by decide) ?_
              refine a_iadd (pc := 118) C dX8_ofLines_118 ?_
              refine a_goto (pc := 119) 123 C dX8_ofLines_119 (by decide) ?_
              exact a_sub [0, 1, 2] rfl (hk123 (v14 + (1 : Int32)) hf)
        · refine a_icmp_ne (pc := 69) 110 C dX8_ofLines_69 (by decide) hf (fun hf => ?_) (fun hf => ?_)
          · exact a_sub [1, 2, 0] rfl (hk110 () hf)
          · refine a_iload_n (pc := 72) C dX8_ofLines_72 2 rfl ?_
            refine a_if_ne (pc := 73) 110 C dX8_ofLines_73 (by decide) hf (fun hf => ?_) (fun hf => ?_)
            · exact a_sub [1, 2, 0] rfl (hk110 () hf)
            · refine a_aload_n (pc := 76) C dX8_ofLines_76 1 rfl ?_
              refine a_aload_n (pc := 77) C dX8_ofLines_77 1 rfl ?_
              refine a_getI (pc := 78) C dX8_ofLines_78 fl_X8_311 tm_0 rfl ?_
              refine a_callV_Ir (pc := 81) (d' := 2) C dX8_ofLines_81 ml_X8_122 mc_X8_isPoint mv_X8_isPoint tm_0 rfl [.int (M12.1 0 35)] rfl (Nat.le_of_ble_eq_true rfl) (Nat.le_of_ble_eq_true rfl) rfl (Nat.le_of_ble_eq_true rfl) (fun r h => c_X8_isPoint N (M12.1 0 35)  _  r h) hf (fun v25 hf => ?_)
              refine a_if_eq (pc := 84) 110 C dX8_ofLines_84 (by decide) hf (fun hf => ?_) (fun hf => ?_)
              · exact a_sub [1, 2, 0] rfl (hk110 () hf)
              · refine a_aload_n (pc := 87) C dX8_ofLines_87 1 rfl ?_
                refine a_getI (pc := 88) C dX8_ofLines_88 fl_X8_311 tm_0 rfl ?_
                refine a_iload_n (pc := 91) C dX8_ofLines_91 0 rfl ?_
                refine a_icmp_eq (pc := 92) 108 C dX8_ofLines_92 (by decide) hf (fun hf => ?_) (fun hf => ?_)
                · refine a_iconst (pc := 108) (v := 0) C dX8_ofLines_108 (by decide) ?_
                  exact a_zret (pc := 109) C dX8_ofLines_109 (Or.inl rfl) (so_1 hf) (so_2 hf)
                · refine a_aload_n (pc := 95) C dX8_ofLines_95 1 rfl ?_
                  refine a_iload_n (pc := 96) C dX8_ofLines_96 0 rfl ?_
                  refine a_aload_n (pc := 97) C dX8_ofLines_97 1 rfl ?_
                  refine a_getI (pc := 98) C dX8_ofLines_98 fl_X8_311 tm_0 rfl ?_
                  refine a_callV_Ir (pc := 101) (d' := 1) C dX8_ofLines_101 ml_X8_126 mc_X8_between mv_X8_between tm_0 rfl [.int v14, .int (M12.1 0 35)] rfl (Nat.le_of_ble_eq_true rfl) (Nat.le_of_ble_eq_true rfl) rfl (Nat.le_of_ble_eq_true rfl) (fun r h => c_X8_between N v14 (M12.1 0 35)  _  r h) hf (fun v27 hf => ?_)
                  refine a_iconst (pc := 104) (v := (-1)) C dX8_ofLines_104 (by decide) ?_
                  refine a_icmp_eq (pc := 105) 110 C dX8_ofLines_105 (by decide) hf (fun hf => ?_) (fun hf => ?_)
                  · exact a_sub [1, 2, 0] rfl (hk110 () hf)
                  · refine a_iconst (pc := 108) (v := 0) C dX8_ofLines_108 (by decide) ?_
                    exact a_zret (pc := 109) C dX8_ofLines_109 (Or.inl rfl) (so_1 hf) (so_2 hf)
      · refine a_iconst (pc := 55) (v := 0) C dX8_ofLines_55 (by decide) ?_
        exact a_zret (pc := 56) C dX8_ofLines_56 (Or.inl rfl) (so_1 hf) (so_2 hf)
  · refine a_iconst (pc := 24) (v := 0) C dX8_ofLines_24 (by decide) ?_
    exact a_zret (pc := 25) C dX8_ofLines_25 (Or.inl rfl) (so_1 hf) (so_2 hf)
theorem dX6_isWord_0 : decode cX6_isWord 0 = .ok (.aload_n 0, 1) := by decide +kernel
theorem dX6_isWord_1 : decode cX6_isWord 1 = .ok (.getfield 32, 3) := by decide +kernel
theorem dX6_isWord_4 : decode cX6_isWord 4 = .ok (.iconst 1, 1) := by decide +kernel
theorem dX6_isWord_5 : decode cX6_isWord 5 = .ok (.if_icmp .ne 19, 3) := by decide +kernel
theorem dX6_isWord_8 : decode cX6_isWord 8 = .ok (.aload_n 0, 1) := by decide +kernel
theorem dX6_isWord_9 : decode cX6_isWord 9 = .ok (.getfield 19, 3) := by decide +kernel
theorem dX6_isWord_12 : decode cX6_isWord 12 = .ok (.aload_n 0, 1) := by decide +kernel
theorem dX6_isWord_13 : decode cX6_isWord 13 = .ok (.getfield 29, 3) := by decide +kernel
theorem dX6_isWord_16 : decode cX6_isWord 16 = .ok (.isub, 1) := by decide +kernel
theorem dX6_isWord_17 : decode cX6_isWord 17 = .ok (.aload_n 1, 1) := by decide +kernel
theorem dX6_isWord_18 : decode cX6_isWord 18 = .ok (.invokevirtual 114, 3) := by decide +kernel
theorem dX6_isWord_21 : decode cX6_isWord 21 = .ok (.if_icmp .eq 5, 3) := by decide +kernel
theorem dX6_isWord_24 : decode cX6_isWord 24 = .ok (.iconst 0, 1) := by decide +kernel
theorem dX6_isWord_25 : decode cX6_isWord 25 = .ok (.ireturn, 1) := by decide +kernel
theorem dX6_isWord_26 : decode cX6_isWord 26 = .ok (.iconst 0, 1) := by decide +kernel
theorem dX6_isWord_27 : decode cX6_isWord 27 = .ok (.istore_n 2, 1) := by decide +kernel
theorem dX6_isWord_28 : decode cX6_isWord 28 = .ok (.iload_n 2, 1) := by decide +kernel
theorem dX6_isWord_29 : decode cX6_isWord 29 = .ok (.aload_n 1, 1) := by decide +kernel
theorem dX6_isWord_30 : decode cX6_isWord 30 = .ok (.invokevirtual 114, 3) := by decide +kernel
theorem dX6_isWord_33 : decode cX6_isWord 33 = .ok (.if_icmp .ge 30, 3) := by decide +kernel
theorem dX6_isWord_36 : decode cX6_isWord 36 = .ok (.aload_n 0, 1) := by decide +kernel
theorem dX6_isWord_37 : decode cX6_isWord 37 = .ok (.getfield 9, 3) := by decide +kernel
theorem dX6_isWord_40 : decode cX6_isWord 40 = .ok (.aload_n 0, 1) := by decide +kernel
theorem dX6_isWord_41 : decode cX6_isWord 41 = .ok (.getfield 29, 3) := by decide +kernel
theorem dX6_isWord_44 : decode cX6_isWord 44 = .ok (.iload_n 2, 1) := by decide +kernel
theorem dX6_isWord_45 : decode cX6_isWord 45 = .ok (.iadd, 1) := by decide +kernel
theorem dX6_isWord_46 : decode cX6_isWord 46 = .ok (.iaload, 1) := by decide +kernel
theorem dX6_isWord_47 : decode cX6_isWord 47 = .ok (.aload_n 1, 1) := by decide +kernel
theorem dX6_isWord_48 : decode cX6_isWord 48 = .ok (.iload_n 2, 1) := by decide +kernel
theorem dX6_isWord_49 : decode cX6_isWord 49 = .ok (.invokevirtual 119, 3) := by decide +kernel
theorem dX6_isWord_52 : decode cX6_isWord 52 = .ok (.if_icmp .eq 5, 3) := by decide +kernel
theorem dX6_isWord_55 : decode cX6_isWord 55 = .ok (.iconst 0, 1) := by decide +kernel
theorem dX6_isWord_56 : decode cX6_isWord 56 = .ok (.ireturn, 1) := by decide +kernel
theorem dX6_isWord_57 : decode cX6_isWord 57 = .ok (.iinc 2 1, 3) := by decide +kernel
theorem dX6_isWord_60 : decode cX6_isWord 60 = .ok (.goto (-32), 3) := by decide +kernel
theorem dX6_isWord_63 : decode cX6_isWord 63 = .ok (.iconst 1, 1) := by decide +kernel
theorem dX6_isWord_64 : decode cX6_isWord 64 = .ok (.ireturn, 1) := by decide +kernel
def f_X6_isWord (N : Nat) (w1 : Nat) (M : Mem) : Option (Int32) := if (M.1 31 2) = (1 : Int32) then (if ((M.1 31 4) - (M.1 31 3)) = (Int32.ofNat (sLen.getD w1 0)) then (lp (fun (k28 : Int32 → Option (Int32)) (a28 : Int32) => if (Int32.ofNat (sLen.getD w1 0)) ≤ a28 then (some (1 : Int32)) else (ck (inb ((M.1 31 3) + a28) 120) (ck (inb a28 (sLen.getD w1 0)) (if (M.1 32 ((M.1 31 3) + a28).toNatClampNeg) = (schr w1 a28.toNatClampNeg) then (nm (a28 + (1 : Int32)) (fun v1 => k28 v1)) else (some (0 : Int32)))))) N (0 : Int32)) else (some (0 : Int32))) else (some (0 : Int32))
set_option maxRecDepth 100000 in
set_option maxHeartbeats 4000000 in
theorem c_X6_isWord {l : Launch} {D : va_G} {ac : Nat → ClassId} {A : Nat → Prop} {ad : Nat → Nat} {rest : va_W} (N : Nat) (w1 : Nat) (hw1 : w1 < 9) (M : Mem) (r0 : Int32) (hf : f_X6_isWord N w1 M = some r0) : CtI l D ac A tabX ad rest yX6_isWord cX6_isWord 3 .boolean 6 [.ref (ad 31), .ref (ad (1000 + w1))] M r0 M := by
  refine ct_ofI (own := RX6) (by decide +kernel) rfl (Nat.le_of_ble_eq_true rfl) ?_
  intro p e s m args below meth c C
  unfold f_X6_isWord at hf
  refine a_L (L' := [(0, .ref (ad 31)), (1, .ref (ad (1000 + w1)))]) rfl ?_
  refine a_aload_n (pc := 0) C dX6_isWord_0 0 rfl ?_
  refine a_getI (pc := 1) C dX6_isWord_1 fl_X6_32 tx_31 rfl ?_
  refine a_iconst (pc := 4) (v := 1) C dX6_isWord_4 (by decide) ?_
  refine a_icmp_ne (pc := 5) 24 C dX6_isWord_5 (by decide) hf (fun hf => ?_) (fun hf => ?_)
  · refine a_iconst (pc := 24) (v := 0) C dX6_isWord_24 (by decide) ?_
    exact a_zret (pc := 25) C dX6_isWord_25 (Or.inl rfl) (Option.some.inj hf) rfl
  · refine a_aload_n (pc := 8) C dX6_isWord_8 0 rfl ?_
    refine a_getI (pc := 9) C dX6_isWord_9 fl_X6_19 tx_31 rfl ?_
    refine a_aload_n (pc := 12) C dX6_isWord_12 0 rfl ?_
    refine a_getI (pc := 13) C dX6_isWord_13 fl_X6_29 tx_31 rfl ?_
    refine a_isub (pc := 16) C dX6_isWord_16 ?_
    refine a_aload_n (pc := 17) C dX6_isWord_17 1 rfl ?_
    refine a_slen (pc := 18) C dX6_isWord_18 ml_X6_114 hw1 (Nat.le_of_ble_eq_true rfl) (Nat.le_of_ble_eq_true rfl) ?_
    refine a_icmp_eq (pc := 21) 26 C dX6_isWord_21 (by decide) hf (fun hf => ?_) (fun hf => ?_)
    · refine a_iconst (pc := 26) (v := 0) C dX6_isWord_26 (by decide) ?_
      refine a_istore_n (pc := 27) [(2, .int (0 : Int32)), (0, .ref (ad 31)), (1, .ref (ad (1000 + w1)))] C dX6_isWord_27 (by decide) rfl ?_
      refine a_sub [1, 2, 0] rfl ?_
      refine a_lp 28 (fun a28 : Int32 => [(0, .ref (ad 31)), (1, .ref (ad (1000 + w1))), (2, .int a28)]) (fun a28 : Int32 => []) (fun a28 : Int32 => M) (fun k28 a28 hk28 hf => ?_) N (0 : Int32) hf
      refine a_iload_n (pc := 28) C dX6_isWord_28 2 rfl ?_
      refine a_aload_n (pc := 29) C dX6_isWord_29 1 rfl ?_
      refine a_slen (pc := 30) C dX6_isWord_30 ml_X6_114 hw1 (Nat.le_of_ble_eq_true rfl) (Nat.le_of_ble_eq_true rfl) ?_
      refine a_icmp_ge (pc := 33) 63 C dX6_isWord_33 (by decide) hf (fun hf => ?_) (fun hf => ?_)
      · refine a_iconst (pc := 63) (v := 1) C dX6_isWord_63 (by decide) ?_
        exact a_zret (pc := 64) C dX6_isWord_64 (Or.inr rfl) (Option.some.inj hf) rfl
      · refine a_aload_n (pc := 36) C dX6_isWord_36 0 rfl ?_
        refine a_getR (pc := 37) C dX6_isWord_37 fl_X6_9 tx_31 rfl ?_
        refine a_aload_n (pc := 40) C dX6_isWord_40 0 rfl ?_
        refine a_getI (pc := 41) C dX6_isWord_41 fl_X6_29 tx_31 rfl ?_
        refine a_iload_n (pc := 44) C dX6_isWord_44 2 rfl ?_
        refine a_iadd (pc := 45) C dX6_isWord_45 ?_
        refine a_iald (pc := 46) C dX6_isWord_46 tx_32 hf (fun hf => ?_)
        refine a_aload_n (pc := 47) C dX6_isWord_47 1 rfl ?_
        refine a_iload_n (pc := 48) C dX6_isWord_48 2 rfl ?_
        refine a_schr (pc := 49) C dX6_isWord_49 ml_X6_119 hw1 (Nat.le_of_ble_eq_true rfl) (Nat.le_of_ble_eq_true rfl) hf (fun hf => ?_)
        refine a_icmp_eq (pc := 52) 57 C dX6_isWord_52 (by decide) hf (fun hf => ?_) (fun hf => ?_)
        · refine a_iinc (pc := 57) (v := 1) (fun v1 => [(2, .int v1), (0, .ref (ad 31)), (1, .ref (ad (1000 + w1)))]) C dX6_isWord_57 2 rfl (by decide) (by decide) (fun _ => rfl) hf (fun v1 hf => ?_)
          refine a_goto (pc := 60) 28 C dX6_isWord_60 (by decide) ?_
          exact a_sub [1, 2, 0] rfl (hk28 v1 hf)
        · refine a_iconst (pc := 55) (v := 0) C dX6_isWord_55 (by decide) ?_
          exact a_zret (pc := 56) C dX6_isWord_56 (Or.inl rfl) (Option.some.inj hf) rfl
    · refine a_iconst (pc := 24) (v := 0) C dX6_isWord_24 (by decide) ?_
      exact a_zret (pc := 25) C dX6_isWord_25 (Or.inl rfl) (Option.some.inj hf) rfl
theorem dX7_fits_0 : decode cX7_fits 0 = .ok (.iload_n 1, 1) := by decide +kernel
theorem dX7_fits_1 : decode cX7_fits 1 = .ok (.iload_n 2, 1) := by decide +kernel
theorem dX7_fits_2 : decode cX7_fits 2 = .ok (.iload_n 3, 1) := by decide +kernel
theorem dX7_fits_3 : decode cX7_fits 3 = .ok (.invokestatic 141, 3) := by decide +kernel
theorem dX7_fits_6 : decode cX7_fits 6 = .ok (.ifCond .ne 6, 3) := by decide +kernel
theorem dX7_fits_9 : decode cX7_fits 9 = .ok (.bipush (-2), 2) := by decide +kernel
theorem dX7_fits_11 : decode cX7_fits 11 = .ok (.ireturn, 1) := by decide +kernel
theorem dX7_fits_12 : decode cX7_fits 12 = .ok (.aload_n 0, 1) := by decide +kernel
theorem dX7_fits_13 : decode cX7_fits 13 = .ok (.getfield 25, 3) := by decide +kernel
theorem dX7_fits_16 : decode cX7_fits 16 = .ok (.aload_n 0, 1) := by decide +kernel
theorem dX7_fits_17 : decode cX7_fits 17 = .ok (.getfield 12, 3) := by decide +kernel
theorem dX7_fits_20 : decode cX7_fits 20 = .ok (.invokevirtual 144, 3) := by decide +kernel
theorem dX7_fits_23 : decode cX7_fits 23 = .ok (.aload_n 0, 1) := by decide +kernel
theorem dX7_fits_24 : decode cX7_fits 24 = .ok (.getfield 32, 3) := by decide +kernel
theorem dX7_fits_27 : decode cX7_fits 27 = .ok (.aload_n 0, 1) := by decide +kernel
theorem dX7_fits_28 : decode cX7_fits 28 = .ok (.getfield 12, 3) := by decide +kernel
theorem dX7_fits_31 : decode cX7_fits 31 = .ok (.iload_n 1, 1) := by decide +kernel
theorem dX7_fits_32 : decode cX7_fits 32 = .ok (.iload_n 2, 1) := by decide +kernel
theorem dX7_fits_33 : decode cX7_fits 33 = .ok (.iload_n 3, 1) := by decide +kernel
theorem dX7_fits_34 : decode cX7_fits 34 = .ok (.invokevirtual 148, 3) := by decide +kernel
theorem dX7_fits_37 : decode cX7_fits 37 = .ok (.aload_n 0, 1) := by decide +kernel
theorem dX7_fits_38 : decode cX7_fits 38 = .ok (.getfield 32, 3) := by decide +kernel
theorem dX7_fits_41 : decode cX7_fits 41 = .ok (.aload_n 0, 1) := by decide +kernel
theorem dX7_fits_42 : decode cX7_fits 42 = .ok (.getfield 12, 3) := by decide +kernel
theorem dX7_fits_45 : decode cX7_fits 45 = .ok (.aload_n 0, 1) := by decide +kernel
theorem dX7_fits_46 : decode cX7_fits 46 = .ok (.getfield 25, 3) := by decide +kernel
theorem dX7_fits_49 : decode cX7_fits 49 = .ok (.iconst 0, 1) := by decide +kernel
theorem dX7_fits_50 : decode cX7_fits 50 = .ok (.invokevirtual 152, 3) := by decide +kernel
theorem dX7_fits_53 : decode cX7_fits 53 = .ok (.ifCond .eq 7, 3) := by decide +kernel
theorem dX7_fits_56 : decode cX7_fits 56 = .ok (.iconst 1, 1) := by decide +kernel
theorem dX7_fits_57 : decode cX7_fits 57 = .ok (.goto 4, 3) := by decide +kernel
theorem dX7_fits_60 : decode cX7_fits 60 = .ok (.iconst 0, 1) := by decide +kernel
theorem dX7_fits_61 : decode cX7_fits 61 = .ok (.ireturn, 1) := by decide +kernel
def f_X7_fits (N : Nat) (x1 : Int32) (x2 : Int32) (x3 : Int32) (M : Mem) : Option (Int32 × Mem) := bd (f_X7_areMeasures N x1 x2 x3 M) (fun v1 => if v1 = 0 then (some ((-2 : Int32), M)) else (bd (f_X4_rateTurns N 1 M) (fun M4 => bd (f_X2_prepare N 1 x1 x2 x3 M4) (fun M6 => bd (f_X2_finds N 1 (0 : Int32) M6) (fun w9 => if w9.1 = 0 then (some ((0 : Int32), w9.2)) else (some ((1 : Int32), w9.2)))))))
set_option maxRecDepth 100000 in
set_option maxHeartbeats 4000000 in
theorem c_X7_fits {l : Launch} {D : va_G} {ac : Nat → ClassId} {A : Nat → Prop} {ad : Nat → Nat} {rest : va_W} (N : Nat) (x1 : Int32) (x2 : Int32) (x3 : Int32)  (M : Mem) (r0 : Int32) (M0 : Mem) (hf : f_X7_fits N x1 x2 x3 M = some (r0, M0)) : CtI l D ac A tabX ad rest yX7_fits cX7_fits 4 .int 6 [.ref (ad 0), .int x1, .int x2, .int x3] M r0 M0 := by
  refine ct_ofI (own := RX7) (by decide +kernel) rfl (Nat.le_of_ble_eq_true rfl) ?_
  intro p e s m args below meth c C
  unfold f_X7_fits at hf
  refine a_L (L' := [(0, .ref (ad 0)), (1, .int x1), (2, .int x2), (3, .int x3)]) rfl ?_
  refine a_iload_n (pc := 0) C dX7_fits_0 1 rfl ?_
  refine a_iload_n (pc := 1) C dX7_fits_1 2 rfl ?_
  refine a_iload_n (pc := 2) C dX7_fits_2 3 rfl ?_
  refine a_callS_Ir (pc := 3) (d' := 2) C dX7_fits_3 ml_X7_141 mc_X7_areMeasures ms_X7_areMeasures [.int x1, .int x2, .int x3] rfl (Nat.le_of_ble_eq_true rfl) (Nat.le_of_ble_eq_true rfl) rfl (Nat.le_of_ble_eq_true rfl) (fun r h => c_X7_areMeasures N x1 x2 x3  _  r h) hf (fun v1 hf => ?_)
  refine a_if_ne (pc := 6) 12 C dX7_fits_6 (by decide) hf (fun hf => ?_) (fun hf => ?_)
  · refine a_aload_n (pc := 12) C dX7_fits_12 0 rfl ?_
    refine a_getR (pc := 13) C dX7_fits_13 fl_X7_25 tx_0 rfl ?_
    refine a_aload_n (pc := 16) C dX7_fits_16 0 rfl ?_
    refine a_getR (pc := 17) C dX7_fits_17 fl_X7_12 tx_0 rfl ?_
    refine a_callV_V (pc := 20) (d' := 5) C dX7_fits_20 ml_X7_144 mc_X4_rateTurns mv_X4_rateTurns tx_19 rfl [.ref (ad 1)] rfl (Nat.le_of_ble_eq_true rfl) (Nat.le_of_ble_eq_true rfl) rfl (Nat.le_of_ble_eq_true rfl) (fun M' h => c_X4_rateTurns N 1 net_1 _  M' h) hf (fun M4 hf => ?_)
    refine a_aload_n (pc := 23) C dX7_fits_23 0 rfl ?_
    refine a_getR (pc := 24) C dX7_fits_24 fl_X7_32 tx_0 rfl ?_
    refine a_aload_n (pc := 27) C dX7_fits_27 0 rfl ?_
    refine a_getR (pc := 28) C dX7_fits_28 fl_X7_12 tx_0 rfl ?_
    refine a_iload_n (pc := 31) C dX7_fits_31 1 rfl ?_
    refine a_iload_n (pc := 32) C dX7_fits_32 2 rfl ?_
    refine a_iload_n (pc := 33) C dX7_fits_33 3 rfl ?_
    refine a_callV_V (pc := 34) (d' := 3) C dX7_fits_34 ml_X7_148 mc_X2_prepare mv_X2_prepare tx_26 rfl [.ref (ad 1), .int x1, .int x2, .int x3] rfl (Nat.le_of_ble_eq_true rfl) (Nat.le_of_ble_eq_true rfl) rfl (Nat.le_of_ble_eq_true rfl) (fun M' h => c_X2_prepare N 1 x1 x2 x3 net_1 _  M' h) hf (fun M6 hf => ?_)
    refine a_aload_n (pc := 37) C dX7_fits_37 0 rfl ?_
    refine a_getR (pc := 38) C dX7_fits_38 fl_X7_32 tx_0 rfl ?_
    refine a_aload_n (pc := 41) C dX7_fits_41 0 rfl ?_
    refine a_getR (pc := 42) C dX7_fits_42 fl_X7_12 tx_0 rfl ?_
    refine a_aload_n (pc := 45) C dX7_fits_45 0 rfl ?_
    refine a_getR (pc := 46) C dX7_fits_46 fl_X7_25 tx_0 rfl ?_
    refine a_iconst (pc := 49) (v := 0) C dX7_fits_49 (by decide) ?_
    refine a_callV_I (pc := 50) (d' := 4) C dX7_fits_50 ml_X7_152 mc_X2_finds mv_X2_finds tx_26 rfl [.ref (ad 1), .ref (ad 19), .int (0 : Int32)] rfl (Nat.le_of_ble_eq_true rfl) (Nat.le_of_ble_eq_true rfl) rfl (Nat.le_of_ble_eq_true rfl) (fun r M' h => c_X2_finds N 1 (0 : Int32) net_1 _  r M' h) hf (fun v7 M8 hf => ?_)
    refine a_if_eq (pc := 53) 60 C dX7_fits_53 (by decide) hf (fun hf => ?_) (fun hf => ?_)
    · refine a_iconst (pc := 60) (v := 0) C dX7_fits_60 (by decide) ?_
      exact a_iret (pc := 61) C dX7_fits_61 (so_1 hf) (so_2 hf)
    · refine a_iconst (pc := 56) (v := 1) C dX7_fits_56 (by decide) ?_
      refine a_goto (pc := 57) 61 C dX7_fits_57 (by decide) ?_
      exact a_iret (pc := 61) C dX7_fits_61 (so_1 hf) (so_2 hf)
  · refine a_bipush (pc := 9) (v := (-2)) C dX7_fits_9 (by decide) ?_
    exact a_iret (pc := 11) C dX7_fits_11 (so_1 hf) (so_2 hf)
theorem dX7_ratio_0 : decode cX7_ratio 0 = .ok (.iload_n 1, 1) := by decide +kernel
theorem dX7_ratio_1 : decode cX7_ratio 1 = .ok (.iconst 0, 1) := by decide +kernel
theorem dX7_ratio_2 : decode cX7_ratio 2 = .ok (.iconst 1, 1) := by decide +kernel
theorem dX7_ratio_3 : decode cX7_ratio 3 = .ok (.invokestatic 64, 3) := by decide +kernel
theorem dX7_ratio_6 : decode cX7_ratio 6 = .ok (.ifCond .ne 6, 3) := by decide +kernel
theorem dX7_ratio_9 : decode cX7_ratio 9 = .ok (.bipush (-2), 2) := by decide +kernel
theorem dX7_ratio_11 : decode cX7_ratio 11 = .ok (.ireturn, 1) := by decide +kernel
theorem dX7_ratio_12 : decode cX7_ratio 12 = .ok (.aload_n 0, 1) := by decide +kernel
theorem dX7_ratio_13 : decode cX7_ratio 13 = .ok (.getfield 25, 3) := by decide +kernel
theorem dX7_ratio_16 : decode cX7_ratio 16 = .ok (.aload_n 0, 1) := by decide +kernel
theorem dX7_ratio_17 : decode cX7_ratio 17 = .ok (.getfield 12, 3) := by decide +kernel
theorem dX7_ratio_20 : decode cX7_ratio 20 = .ok (.invokevirtual 144, 3) := by decide +kernel
theorem dX7_ratio_23 : decode cX7_ratio 23 = .ok (.iload_n 1, 1) := by decide +kernel
theorem dX7_ratio_24 : decode cX7_ratio 24 = .ok (.ifCond .ne 13, 3) := by decide +kernel
theorem dX7_ratio_27 : decode cX7_ratio 27 = .ok (.aload_n 0, 1) := by decide +kernel
theorem dX7_ratio_28 : decode cX7_ratio 28 = .ok (.getfield 25, 3) := by decide +kernel
theorem dX7_ratio_31 : decode cX7_ratio 31 = .ok (.getfield 166, 3) := by decide +kernel
theorem dX7_ratio_34 : decode cX7_ratio 34 = .ok (.goto 10, 3) := by decide +kernel
theorem dX7_ratio_37 : decode cX7_ratio 37 = .ok (.aload_n 0, 1) := by decide +kernel
theorem dX7_ratio_38 : decode cX7_ratio 38 = .ok (.getfield 25, 3) := by decide +kernel
theorem dX7_ratio_41 : decode cX7_ratio 41 = .ok (.getfield 169, 3) := by decide +kernel
theorem dX7_ratio_44 : decode cX7_ratio 44 = .ok (.ireturn, 1) := by decide +kernel
def f_X7_ratio (N : Nat) (x1 : Int32) (M : Mem) : Option (Int32 × Mem) := bd (f_X7_within N x1 (0 : Int32) (1 : Int32) M) (fun v1 => if v1 = 0 then (some ((-2 : Int32), M)) else (bd (f_X4_rateTurns N 1 M) (fun M4 => if x1 = 0 then (some ((M4.1 19 3), M4)) else (some ((M4.1 19 4), M4)))))
set_option maxRecDepth 100000 in
set_option maxHeartbeats 4000000 in
theorem c_X7_ratio {l : Launch} {D : va_G} {ac : Nat → ClassId} {A : Nat → Prop} {ad : Nat → Nat} {rest : va_W} (N : Nat) (x1 : Int32)  (M : Mem) (r0 : Int32) (M0 : Mem) (hf : f_X7_ratio N x1 M = some (r0, M0)) : CtI l D ac A tabX ad rest yX7_ratio cX7_ratio 2 .int 6 [.ref (ad 0), .int x1] M r0 M0 := by
  refine ct_ofI (own := RX7) (by decide +kernel) rfl (Nat.le_of_ble_eq_true rfl) ?_
  intro p e s m args below meth c C
  unfold f_X7_ratio at hf
  refine a_L (L' := [(0, .ref (ad 0)), (1, .int x1)]) rfl ?_
  refine a_iload_n (pc := 0) C dX7_ratio_0 1 rfl ?_
  refine a_iconst (pc := 1) (v := 0) C dX7_ratio_1 (by decide) ?_
  refine a_iconst (pc := 2) (v := 1) C dX7_ratio_2 (by decide) ?_
  refine a_callS_Ir (pc := 3) (d' := 1) C dX7_ratio_3 ml_X7_64 mc_X7_within ms_X7_within [.int x1, .int (0 : Int32), .int (1 : Int32)] rfl (Nat.le_of_ble_eq_true rfl) (Nat.le_of_ble_eq_true rfl) rfl (Nat.le_of_ble_eq_true rfl) (fun r h => c_X7_within N x1 (0 : Int32) (1 : Int32)  _  r h) hf (fun v1 hf => ?_)
  refine a_if_ne (pc := 6) 12 C dX7_ratio_6 (by decide) hf (fun hf => ?_) (fun hf => ?_)
  · refine a_aload_n (pc := 12) C dX7_ratio_12 0 rfl ?_
    refine a_getR (pc := 13) C dX7_ratio_13 fl_X7_25 tx_0 rfl ?_
    refine a_aload_n (pc := 16) C dX7_ratio_16 0 rfl ?_
    refine a_getR (pc := 17) C dX7_ratio_17 fl_X7_12 tx_0 rfl ?_
    refine a_callV_V (pc := 20) (d' := 5) C dX7_ratio_20 ml_X7_144 mc_X4_rateTurns mv_X4_rateTurns tx_19 rfl [.ref (ad 1)] rfl (Nat.le_of_ble_eq_true rfl) (Nat.le_of_ble_eq_true rfl) rfl (Nat.le_of_ble_eq_true rfl) (fun M' h => c_X4_rateTurns N 1 net_1 _  M' h) hf (fun M4 hf => ?_)
    refine a_iload_n (pc := 23) C dX7_ratio_23 1 rfl ?_
    refine a_if_ne (pc := 24) 37 C dX7_ratio_24 (by decide) hf (fun hf => ?_) (fun hf => ?_)
    · refine a_aload_n (pc := 37) C dX7_ratio_37 0 rfl ?_
      refine a_getR (pc := 38) C dX7_ratio_38 fl_X7_25 tx_0 rfl ?_
      refine a_getI (pc := 41) C dX7_ratio_41 fl_X7_169 tx_19 rfl ?_
      exact a_iret (pc := 44) C dX7_ratio_44 (so_1 hf) (so_2 hf)
    · refine a_aload_n (pc := 27) C dX7_ratio_27 0 rfl ?_
      refine a_getR (pc := 28) C dX7_ratio_28 fl_X7_25 tx_0 rfl ?_
      refine a_getI (pc := 31) C dX7_ratio_31 fl_X7_166 tx_19 rfl ?_
      refine a_goto (pc := 34) 44 C dX7_ratio_34 (by decide) ?_
      exact a_iret (pc := 44) C dX7_ratio_44 (so_1 hf) (so_2 hf)
  · refine a_bipush (pc := 9) (v := (-2)) C dX7_ratio_9 (by decide) ?_
    exact a_iret (pc := 11) C dX7_ratio_11 (so_1 hf) (so_2 hf)
theorem dX7_rate_0 : decode cX7_rate 0 = .ok (.aload_n 0, 1) := by decide +kernel
theorem dX7_rate_1 : decode cX7_rate 1 = .ok (.getfield 12, 3) := by decide +kernel
theorem dX7_rate_4 : decode cX7_rate 4 = .ok (.iload_n 1, 1) := by decide +kernel
theorem dX7_rate_5 : decode cX7_rate 5 = .ok (.invokevirtual 188, 3) := by decide +kernel
theorem dX7_rate_8 : decode cX7_rate 8 = .ok (.ifCond .eq 12, 3) := by decide +kernel
theorem dX7_rate_11 : decode cX7_rate 11 = .ok (.iload_n 2, 1) := by decide +kernel
theorem dX7_rate_12 : decode cX7_rate 12 = .ok (.iconst 0, 1) := by decide +kernel
theorem dX7_rate_13 : decode cX7_rate 13 = .ok (.iconst 1, 1) := by decide +kernel
theorem dX7_rate_14 : decode cX7_rate 14 = .ok (.invokestatic 64, 3) := by decide +kernel
theorem dX7_rate_17 : decode cX7_rate 17 = .ok (.ifCond .ne 6, 3) := by decide +kernel
theorem dX7_rate_20 : decode cX7_rate 20 = .ok (.bipush (-2), 2) := by decide +kernel
theorem dX7_rate_22 : decode cX7_rate 22 = .ok (.ireturn, 1) := by decide +kernel
theorem dX7_rate_23 : decode cX7_rate 23 = .ok (.aload_n 0, 1) := by decide +kernel
theorem dX7_rate_24 : decode cX7_rate 24 = .ok (.iload_n 1, 1) := by decide +kernel
theorem dX7_rate_25 : decode cX7_rate 25 = .ok (.invokevirtual 194, 3) := by decide +kernel
theorem dX7_rate_28 : decode cX7_rate 28 = .ok (.istore_n 3, 1) := by decide +kernel
theorem dX7_rate_29 : decode cX7_rate 29 = .ok (.iload_n 3, 1) := by decide +kernel
theorem dX7_rate_30 : decode cX7_rate 30 = .ok (.ifCond .ge 5, 3) := by decide +kernel
theorem dX7_rate_33 : decode cX7_rate 33 = .ok (.iload_n 3, 1) := by decide +kernel
theorem dX7_rate_34 : decode cX7_rate 34 = .ok (.ireturn, 1) := by decide +kernel
theorem dX7_rate_35 : decode cX7_rate 35 = .ok (.aload_n 0, 1) := by decide +kernel
theorem dX7_rate_36 : decode cX7_rate 36 = .ok (.getfield 25, 3) := by decide +kernel
theorem dX7_rate_39 : decode cX7_rate 39 = .ok (.getfield 185, 3) := by decide +kernel
theorem dX7_rate_42 : decode cX7_rate 42 = .ok (.iload_n 3, 1) := by decide +kernel
theorem dX7_rate_43 : decode cX7_rate 43 = .ok (.iaload, 1) := by decide +kernel
theorem dX7_rate_44 : decode cX7_rate 44 = .ok (.istore 4, 2) := by decide +kernel
theorem dX7_rate_46 : decode cX7_rate 46 = .ok (.aload_n 0, 1) := by decide +kernel
theorem dX7_rate_47 : decode cX7_rate 47 = .ok (.getfield 25, 3) := by decide +kernel
theorem dX7_rate_50 : decode cX7_rate 50 = .ok (.iload_n 3, 1) := by decide +kernel
theorem dX7_rate_51 : decode cX7_rate 51 = .ok (.iload_n 1, 1) := by decide +kernel
theorem dX7_rate_52 : decode cX7_rate 52 = .ok (.invokevirtual 197, 3) := by decide +kernel
theorem dX7_rate_55 : decode cX7_rate 55 = .ok (.istore 5, 2) := by decide +kernel
theorem dX7_rate_57 : decode cX7_rate 57 = .ok (.iload 4, 2) := by decide +kernel
theorem dX7_rate_59 : decode cX7_rate 59 = .ok (.i2l, 1) := by decide +kernel
theorem dX7_rate_60 : decode cX7_rate 60 = .ok (.iload 5, 2) := by decide +kernel
theorem dX7_rate_62 : decode cX7_rate 62 = .ok (.i2l, 1) := by decide +kernel
theorem dX7_rate_63 : decode cX7_rate 63 = .ok (.invokestatic 201, 3) := by decide +kernel
theorem dX7_rate_66 : decode cX7_rate 66 = .ok (.l2i, 1) := by decide +kernel
theorem dX7_rate_67 : decode cX7_rate 67 = .ok (.istore 6, 2) := by decide +kernel
theorem dX7_rate_69 : decode cX7_rate 69 = .ok (.iload 6, 2) := by decide +kernel
theorem dX7_rate_71 : decode cX7_rate 71 = .ok (.iconst 1, 1) := by decide +kernel
theorem dX7_rate_72 : decode cX7_rate 72 = .ok (.if_icmp .ge 6, 3) := by decide +kernel
theorem dX7_rate_75 : decode cX7_rate 75 = .ok (.bipush (-2), 2) := by decide +kernel
theorem dX7_rate_77 : decode cX7_rate 77 = .ok (.ireturn, 1) := by decide +kernel
theorem dX7_rate_78 : decode cX7_rate 78 = .ok (.iload_n 2, 1) := by decide +kernel
theorem dX7_rate_79 : decode cX7_rate 79 = .ok (.ifCond .ne 8, 3) := by decide +kernel
theorem dX7_rate_82 : decode cX7_rate 82 = .ok (.iload 4, 2) := by decide +kernel
theorem dX7_rate_84 : decode cX7_rate 84 = .ok (.goto 5, 3) := by decide +kernel
theorem dX7_rate_87 : decode cX7_rate 87 = .ok (.iload 5, 2) := by decide +kernel
theorem dX7_rate_89 : decode cX7_rate 89 = .ok (.iload 6, 2) := by decide +kernel
theorem dX7_rate_91 : decode cX7_rate 91 = .ok (.idiv, 1) := by decide +kernel
theorem dX7_rate_92 : decode cX7_rate 92 = .ok (.ireturn, 1) := by decide +kernel
def f_X7_rate (N : Nat) (x1 : Int32) (x2 : Int32) (M : Mem) : Option (Int32 × Mem) := bd (f_X1_areLines N 1 x1 M) (fun v1 => if v1 = 0 then (some ((-2 : Int32), M)) else (bd (f_X7_within N x2 (0 : Int32) (1 : Int32) M) (fun v3 => if v3 = 0 then (some ((-2 : Int32), M)) else (bd (f_X7_ringOfRate N x1 M) (fun w7 => if 0 ≤ w7.1 then (ck (inb w7.1 64) (nm (w7.2.1 21 w7.1.toNatClampNeg) (fun v8 => bd (f_X4_along N w7.1 x1 w7.2) (fun v9 => bd (f_X7_commonPart N v8.toInt64 v9.toInt64 w7.2) (fun v11 => if (1 : Int32) ≤ v11.toInt32 then (jn (fun (a89 : Int32) => ck (¬ v11.toInt32 = 0) (some ((a89 / v11.toInt32), w7.2))) (fun (k89 : Int32 → Option (Int32 × Mem)) => if x2 = 0 then (k89 v8) else (k89 v9))) else (some ((-2 : Int32), w7.2))))))) else (some (w7.1, w7.2)))))))
set_option maxRecDepth 100000 in
set_option maxHeartbeats 4000000 in
theorem c_X7_rate {l : Launch} {D : va_G} {ac : Nat → ClassId} {A : Nat → Prop} {ad : Nat → Nat} {rest : va_W} (N : Nat) (x1 : Int32) (x2 : Int32)  (M : Mem) (r0 : Int32) (M0 : Mem) (hf : f_X7_rate N x1 x2 M = some (r0, M0)) : CtI l D ac A tabX ad rest yX7_rate cX7_rate 7 .int 6 [.ref (ad 0), .int x1, .int x2] M r0 M0 := by
  refine ct_ofI (own := RX7) (by decide +kernel) rfl (Nat.le_of_ble_eq_true rfl) ?_
  intro p e s m args below meth c C
  unfold f_X7_rate at hf
  refine a_L (L' := [(0, .ref (ad 0)), (1, .int x1), (2, .int x2)]) rfl ?_
  refine a_aload_n (pc := 0) C dX7_rate_0 0 rfl ?_
  refine a_getR (pc := 1) C dX7_rate_1 fl_X7_12 tx_0 rfl ?_
  refine a_iload_n (pc := 4) C dX7_rate_4 1 rfl ?_
  refine a_callV_Ir (pc := 5) (d' := 1) C dX7_rate_5 ml_X7_188 mc_X1_areLines mv_X1_areLines net_1.1 rfl [.int x1] rfl (Nat.le_of_ble_eq_true rfl) (Nat.le_of_ble_eq_true rfl) rfl (Nat.le_of_ble_eq_true rfl) (fun r h => c_X1_areLines N 1 x1 net_1 _  r h) hf (fun v1 hf => ?_)
  refine a_if_eq (pc := 8) 20 C dX7_rate_8 (by decide) hf (fun hf => ?_) (fun hf => ?_)
  · refine a_bipush (pc := 20) (v := (-2)) C dX7_rate_20 (by decide) ?_
    exact a_iret (pc := 22) C dX7_rate_22 (so_1 hf) (so_2 hf)
  · refine a_iload_n (pc := 11) C dX7_rate_11 2 rfl ?_
    refine a_iconst (pc := 12) (v := 0) C dX7_rate_12 (by decide) ?_
    refine a_iconst (pc := 13) (v := 1) C dX7_rate_13 (by decide) ?_
    refine a_callS_Ir (pc := 14) (d' := 1) C dX7_rate_14 ml_X7_64 mc_X7_within ms_X7_within [.int x2, .int (0 : Int32), .int (1 : Int32)] rfl (Nat.le_of_ble_eq_true rfl) (Nat.le_of_ble_eq_true rfl) rfl (Nat.le_of_ble_eq_true rfl) (fun r h => c_X7_within N x2 (0 : Int32) (1 : Int32)  _  r h) hf (fun v3 hf => ?_)
    refine a_if_ne (pc := 17) 23 C dX7_rate_17 (by decide) hf (fun hf => ?_) (fun hf => ?_)
    · refine a_aload_n (pc := 23) C dX7_rate_23 0 rfl ?_
      refine a_iload_n (pc := 24) C dX7_rate_24 1 rfl ?_
      refine a_callV_I (pc := 25) (d' := 5) C dX7_rate_25 ml_X7_194 mc_X7_ringOfRate mv_X7_ringOfRate tx_0 rfl [.int x1] rfl (Nat.le_of_ble_eq_true rfl) (Nat.le_of_ble_eq_true rfl) rfl (Nat.le_of_ble_eq_true rfl) (fun r M' h => c_X7_ringOfRate N x1  _  r M' h) hf (fun v5 M6 hf => ?_)
      refine a_istore_n (pc := 28) [(3, .int v5), (0, .ref (ad 0)), (1, .int x1), (2, .int x2)] C dX7_rate_28 (by decide) rfl ?_
      refine a_iload_n (pc := 29) C dX7_rate_29 0 rfl ?_
      refine a_if_ge (pc := 30) 35 C dX7_rate_30 (by decide) hf (fun hf => ?_) (fun hf => ?_)
      · refine a_aload_n (pc := 35) C dX7_rate_35 1 rfl ?_
        refine a_getR (pc := 36) C dX7_rate_36 fl_X7_25 tx_0 rfl ?_
        refine a_getR (pc := 39) C dX7_rate_39 fl_X7_185 tx_19 rfl ?_
        refine a_iload_n (pc := 42) C dX7_rate_42 0 rfl ?_
        refine a_iald (pc := 43) C dX7_rate_43 tx_21 hf (fun hf => ?_)
        refine a_nmi hf (fun v8 hf => ?_)
        refine a_istore (pc := 44) [(4, .int v8), (3, .int v5), (0, .ref (ad 0)), (1, .int x1), (2, .int x2)] C dX7_rate_44 (by decide) rfl ?_
        refine a_aload_n (pc := 46) C dX7_rate_46 2 rfl ?_
        refine a_getR (pc := 47) C dX7_rate_47 fl_X7_25 tx_0 rfl ?_
        refine a_iload_n (pc := 50) C dX7_rate_50 1 rfl ?_
        refine a_iload_n (pc := 51) C dX7_rate_51 3 rfl ?_
        refine a_callV_Ir (pc := 52) (d' := 2) C dX7_rate_52 ml_X7_197 mc_X4_along mv_X4_along tx_19 rfl [.int v5, .int x1] rfl (Nat.le_of_ble_eq_true rfl) (Nat.le_of_ble_eq_true rfl) rfl (Nat.le_of_ble_eq_true rfl) (fun r h => c_X4_along N v5 x1  _  r h) hf (fun v9 hf => ?_)
        refine a_istore (pc := 55) [(5, .int v9), (4, .int v8), (3, .int v5), (0, .ref (ad 0)), (1, .int x1), (2, .int x2)] C dX7_rate_55 (by decide) rfl ?_
        refine a_iload (pc := 57) C dX7_rate_57 1 rfl ?_
        refine a_i2l (pc := 59) C dX7_rate_59 ?_
        refine a_iload (pc := 60) C dX7_rate_60 0 rfl ?_
        refine a_i2l (pc := 62) C dX7_rate_62 ?_
        refine a_callS_Jr (pc := 63) (d' := 1) C dX7_rate_63 ml_X7_201 mc_X7_commonPart ms_X7_commonPart [.long v8.toInt64, .long v9.toInt64] rfl (Nat.le_of_ble_eq_true rfl) (Nat.le_of_ble_eq_true rfl) rfl (Nat.le_of_ble_eq_true rfl) (fun r h => c_X7_commonPart N v8.toInt64 v9.toInt64  _  r h) hf (fun v11 hf => ?_)
        refine a_l2i (pc := 66) C dX7_rate_66 ?_
        refine a_istore (pc := 67) [(6, .int v11.toInt32), (5, .int v9), (4, .int v8), (3, .int v5), (0, .ref (ad 0)), (1, .int x1), (2, .int x2)] C dX7_rate_67 (by decide) rfl ?_
        refine a_iload (pc := 69) C dX7_rate_69 0 rfl ?_
        refine a_iconst (pc := 71) (v := 1) C dX7_rate_71 (by decide) ?_
        refine a_icmp_ge (pc := 72) 78 C dX7_rate_72 (by decide) hf (fun hf => ?_) (fun hf => ?_)
        · refine a_iload_n (pc := 78) C dX7_rate_78 6 rfl ?_
          refine a_jn 89 (fun a89 : Int32 => [(6, .int v11.toInt32)]) (fun a89 : Int32 => [.int a89]) (fun a89 : Int32 => M6) hf (fun a89 hf => ?_) (fun k89 hk89 hf => ?_)
          · refine a_iload (pc := 89) C dX7_rate_89 0 rfl ?_
            refine a_idiv (pc := 91) C dX7_rate_91 hf (fun hf => ?_)
            exact a_iret (pc := 92) C dX7_rate_92 (so_1 hf) (so_2 hf)
          · refine a_if_ne (pc := 79) 87 C dX7_rate_79 (by decide) hf (fun hf => ?_) (fun hf => ?_)
            · refine a_iload (pc := 87) C dX7_rate_87 1 rfl ?_
              exact a_sub [0] rfl (hk89 v9 hf)
            · refine a_iload (pc := 82) C dX7_rate_82 2 rfl ?_
              refine a_goto (pc := 84) 89 C dX7_rate_84 (by decide) ?_
              exact a_sub [0] rfl (hk89 v8 hf)
        · refine a_bipush (pc := 75) (v := (-2)) C dX7_rate_75 (by decide) ?_
          exact a_iret (pc := 77) C dX7_rate_77 (so_1 hf) (so_2 hf)
      · refine a_iload_n (pc := 33) C dX7_rate_33 0 rfl ?_
        exact a_iret (pc := 34) C dX7_rate_34 (so_1 hf) (so_2 hf)
    · refine a_bipush (pc := 20) (v := (-2)) C dX7_rate_20 (by decide) ?_
      exact a_iret (pc := 22) C dX7_rate_22 (so_1 hf) (so_2 hf)
theorem dX7_worst_0 : decode cX7_worst 0 = .ok (.aload_n 0, 1) := by decide +kernel
theorem dX7_worst_1 : decode cX7_worst 1 = .ok (.getfield 12, 3) := by decide +kernel
theorem dX7_worst_4 : decode cX7_worst 4 = .ok (.iload_n 1, 1) := by decide +kernel
theorem dX7_worst_5 : decode cX7_worst 5 = .ok (.invokevirtual 188, 3) := by decide +kernel
theorem dX7_worst_8 : decode cX7_worst 8 = .ok (.ifCond .ne 6, 3) := by decide +kernel
theorem dX7_worst_11 : decode cX7_worst 11 = .ok (.bipush (-2), 2) := by decide +kernel
theorem dX7_worst_13 : decode cX7_worst 13 = .ok (.ireturn, 1) := by decide +kernel
theorem dX7_worst_14 : decode cX7_worst 14 = .ok (.aload_n 0, 1) := by decide +kernel
theorem dX7_worst_15 : decode cX7_worst 15 = .ok (.iload_n 1, 1) := by decide +kernel
theorem dX7_worst_16 : decode cX7_worst 16 = .ok (.invokevirtual 194, 3) := by decide +kernel
theorem dX7_worst_19 : decode cX7_worst 19 = .ok (.istore_n 2, 1) := by decide +kernel
theorem dX7_worst_20 : decode cX7_worst 20 = .ok (.iload_n 2, 1) := by decide +kernel
theorem dX7_worst_21 : decode cX7_worst 21 = .ok (.ifCond .ge 7, 3) := by decide +kernel
theorem dX7_worst_24 : decode cX7_worst 24 = .ok (.iload_n 2, 1) := by decide +kernel
theorem dX7_worst_25 : decode cX7_worst 25 = .ok (.goto 12, 3) := by decide +kernel
theorem dX7_worst_28 : decode cX7_worst 28 = .ok (.aload_n 0, 1) := by decide +kernel
theorem dX7_worst_29 : decode cX7_worst 29 = .ok (.getfield 25, 3) := by decide +kernel
theorem dX7_worst_32 : decode cX7_worst 32 = .ok (.getfield 179, 3) := by decide +kernel
theorem dX7_worst_35 : decode cX7_worst 35 = .ok (.iload_n 2, 1) := by decide +kernel
theorem dX7_worst_36 : decode cX7_worst 36 = .ok (.iaload, 1) := by decide +kernel
theorem dX7_worst_37 : decode cX7_worst 37 = .ok (.ireturn, 1) := by decide +kernel
def f_X7_worst (N : Nat) (x1 : Int32) (M : Mem) : Option (Int32 × Mem) := bd (f_X1_areLines N 1 x1 M) (fun v1 => if v1 = 0 then (some ((-2 : Int32), M)) else (bd (f_X7_ringOfRate N x1 M) (fun w5 => if 0 ≤ w5.1 then (ck (inb w5.1 64) (some ((w5.2.1 20 w5.1.toNatClampNeg), w5.2))) else (some (w5.1, w5.2)))))
set_option maxRecDepth 100000 in
set_option maxHeartbeats 4000000 in
theorem c_X7_worst {l : Launch} {D : va_G} {ac : Nat → ClassId} {A : Nat → Prop} {ad : Nat → Nat} {rest : va_W} (N : Nat) (x1 : Int32)  (M : Mem) (r0 : Int32) (M0 : Mem) (hf : f_X7_worst N x1 M = some (r0, M0)) : CtI l D ac A tabX ad rest yX7_worst cX7_worst 3 .int 6 [.ref (ad 0), .int x1] M r0 M0 := by
  refine ct_ofI (own := RX7) (by decide +kernel) rfl (Nat.le_of_ble_eq_true rfl) ?_
  intro p e s m args below meth c C
  unfold f_X7_worst at hf
  refine a_L (L' := [(0, .ref (ad 0)), (1, .int x1)]) rfl ?_
  refine a_aload_n (pc := 0) C dX7_worst_0 0 rfl ?_
  refine a_getR (pc := 1) C dX7_worst_1 fl_X7_12 tx_0 rfl ?_
  refine a_iload_n (pc := 4) C dX7_worst_4 1 rfl ?_
  refine a_callV_Ir (pc := 5) (d' := 1) C dX7_worst_5 ml_X7_188 mc_X1_areLines mv_X1_areLines net_1.1 rfl [.int x1] rfl (Nat.le_of_ble_eq_true rfl) (Nat.le_of_ble_eq_true rfl) rfl (Nat.le_of_ble_eq_true rfl) (fun r h => c_X1_areLines N 1 x1 net_1 _  r h) hf (fun v1 hf => ?_)
  refine a_if_ne (pc := 8) 14 C dX7_worst_8 (by decide) hf (fun hf => ?_) (fun hf => ?_)
  · refine a_aload_n (pc := 14) C dX7_worst_14 0 rfl ?_
    refine a_iload_n (pc := 15) C dX7_worst_15 1 rfl ?_
    refine a_callV_I (pc := 16) (d' := 5) C dX7_worst_16 ml_X7_194 mc_X7_ringOfRate mv_X7_ringOfRate tx_0 rfl [.int x1] rfl (Nat.le_of_ble_eq_true rfl) (Nat.le_of_ble_eq_true rfl) rfl (Nat.le_of_ble_eq_true rfl) (fun r M' h => c_X7_ringOfRate N x1  _  r M' h) hf (fun v3 M4 hf => ?_)
    refine a_istore_n (pc := 19) [(2, .int v3), (0, .ref (ad 0)), (1, .int x1)] C dX7_worst_19 (by decide) rfl ?_
    refine a_iload_n (pc := 20) C dX7_worst_20 0 rfl ?_
    refine a_if_ge (pc := 21) 28 C dX7_worst_21 (by decide) hf (fun hf => ?_) (fun hf => ?_)
    · refine a_aload_n (pc := 28) C dX7_worst_28 1 rfl ?_
      refine a_getR (pc := 29) C dX7_worst_29 fl_X7_25 tx_0 rfl ?_
      refine a_getR (pc := 32) C dX7_worst_32 fl_X7_179 tx_19 rfl ?_
      refine a_iload_n (pc := 35) C dX7_worst_35 0 rfl ?_
      refine a_iald (pc := 36) C dX7_worst_36 tx_20 hf (fun hf => ?_)
      exact a_iret (pc := 37) C dX7_worst_37 (so_1 hf) (so_2 hf)
    · refine a_iload_n (pc := 24) C dX7_worst_24 0 rfl ?_
      refine a_goto (pc := 25) 37 C dX7_worst_25 (by decide) ?_
      exact a_iret (pc := 37) C dX7_worst_37 (so_1 hf) (so_2 hf)
  · refine a_bipush (pc := 11) (v := (-2)) C dX7_worst_11 (by decide) ?_
    exact a_iret (pc := 13) C dX7_worst_13 (so_1 hf) (so_2 hf)
theorem dX7_turns_0 : decode cX7_turns 0 = .ok (.iload_n 1, 1) := by decide +kernel
theorem dX7_turns_1 : decode cX7_turns 1 = .ok (.iconst 0, 1) := by decide +kernel
theorem dX7_turns_2 : decode cX7_turns 2 = .ok (.iconst 2, 1) := by decide +kernel
theorem dX7_turns_3 : decode cX7_turns 3 = .ok (.invokestatic 64, 3) := by decide +kernel
theorem dX7_turns_6 : decode cX7_turns 6 = .ok (.ifCond .ne 6, 3) := by decide +kernel
theorem dX7_turns_9 : decode cX7_turns 9 = .ok (.bipush (-2), 2) := by decide +kernel
theorem dX7_turns_11 : decode cX7_turns 11 = .ok (.ireturn, 1) := by decide +kernel
theorem dX7_turns_12 : decode cX7_turns 12 = .ok (.iload_n 1, 1) := by decide +kernel
theorem dX7_turns_13 : decode cX7_turns 13 = .ok (.ifCond .le 15, 3) := by decide +kernel
theorem dX7_turns_16 : decode cX7_turns 16 = .ok (.aload_n 0, 1) := by decide +kernel
theorem dX7_turns_17 : decode cX7_turns 17 = .ok (.getfield 12, 3) := by decide +kernel
theorem dX7_turns_20 : decode cX7_turns 20 = .ok (.getfield 90, 3) := by decide +kernel
theorem dX7_turns_23 : decode cX7_turns 23 = .ok (.ifCond .ne 5, 3) := by decide +kernel
theorem dX7_turns_26 : decode cX7_turns 26 = .ok (.iconst (-1), 1) := by decide +kernel
theorem dX7_turns_27 : decode cX7_turns 27 = .ok (.ireturn, 1) := by decide +kernel
theorem dX7_turns_28 : decode cX7_turns 28 = .ok (.aload_n 0, 1) := by decide +kernel
theorem dX7_turns_29 : decode cX7_turns 29 = .ok (.getfield 25, 3) := by decide +kernel
theorem dX7_turns_32 : decode cX7_turns 32 = .ok (.aload_n 0, 1) := by decide +kernel
theorem dX7_turns_33 : decode cX7_turns 33 = .ok (.getfield 12, 3) := by decide +kernel
theorem dX7_turns_36 : decode cX7_turns 36 = .ok (.invokevirtual 144, 3) := by decide +kernel
theorem dX7_turns_39 : decode cX7_turns 39 = .ok (.iload_n 1, 1) := by decide +kernel
theorem dX7_turns_40 : decode cX7_turns 40 = .ok (.ifCond .ne 11, 3) := by decide +kernel
theorem dX7_turns_43 : decode cX7_turns 43 = .ok (.aload_n 0, 1) := by decide +kernel
theorem dX7_turns_44 : decode cX7_turns 44 = .ok (.getfield 25, 3) := by decide +kernel
theorem dX7_turns_47 : decode cX7_turns 47 = .ok (.invokevirtual 205, 3) := by decide +kernel
theorem dX7_turns_50 : decode cX7_turns 50 = .ok (.ireturn, 1) := by decide +kernel
theorem dX7_turns_51 : decode cX7_turns 51 = .ok (.iload_n 1, 1) := by decide +kernel
theorem dX7_turns_52 : decode cX7_turns 52 = .ok (.iconst 1, 1) := by decide +kernel
theorem dX7_turns_53 : decode cX7_turns 53 = .ok (.if_icmp .ne 13, 3) := by decide +kernel
theorem dX7_turns_56 : decode cX7_turns 56 = .ok (.aload_n 0, 1) := by decide +kernel
theorem dX7_turns_57 : decode cX7_turns 57 = .ok (.getfield 25, 3) := by decide +kernel
theorem dX7_turns_60 : decode cX7_turns 60 = .ok (.invokevirtual 208, 3) := by decide +kernel
theorem dX7_turns_63 : decode cX7_turns 63 = .ok (.goto 10, 3) := by decide +kernel
theorem dX7_turns_66 : decode cX7_turns 66 = .ok (.aload_n 0, 1) := by decide +kernel
theorem dX7_turns_67 : decode cX7_turns 67 = .ok (.getfield 25, 3) := by decide +kernel
theorem dX7_turns_70 : decode cX7_turns 70 = .ok (.invokevirtual 211, 3) := by decide +kernel
theorem dX7_turns_73 : decode cX7_turns 73 = .ok (.ireturn, 1) := by decide +kernel
def f_X7_turns (N : Nat) (x1 : Int32) (M : Mem) : Option (Int32 × Mem) := bd (f_X7_within N x1 (0 : Int32) (2 : Int32) M) (fun v1 => if v1 = 0 then (some ((-2 : Int32), M)) else (jn (fun (a28 : Unit) => bd (f_X4_rateTurns N 1 M) (fun M4 => if x1 = 0 then (bd (f_X4_countOpen N  M4) (fun v9 => some (v9, M4))) else (if x1 = (1 : Int32) then (bd (f_X4_countBest N  M4) (fun v7 => some (v7, M4))) else (bd (f_X4_leastBest N  M4) (fun v5 => some (v5, M4)))))) (fun (k28 : Unit → Option (Int32 × Mem)) => if x1 ≤ 0 then (k28 ()) else (if (M.1 1 1) = 0 then (some ((-1 : Int32), M)) else (k28 ())))))
set_option maxRecDepth 100000 in
set_option maxHeartbeats 4000000 in
theorem c_X7_turns {l : Launch} {D : va_G} {ac : Nat → ClassId} {A : Nat → Prop} {ad : Nat → Nat} {rest : va_W} (N : Nat) (x1 : Int32)  (M : Mem) (r0 : Int32) (M0 : Mem) (hf : f_X7_turns N x1 M = some (r0, M0)) : CtI l D ac A tabX ad rest yX7_turns cX7_turns 2 .int 6 [.ref (ad 0), .int x1] M r0 M0 := by
  refine ct_ofI (own := RX7) (by decide +kernel) rfl (Nat.le_of_ble_eq_true rfl) ?_
  intro p e s m args below meth c C
  unfold f_X7_turns at hf
  refine a_L (L' := [(0, .ref (ad 0)), (1, .int x1)]) rfl ?_
  refine a_iload_n (pc := 0) C dX7_turns_0 1 rfl ?_
  refine a_iconst (pc := 1) (v := 0) C dX7_turns_1 (by decide) ?_
  refine a_iconst (pc := 2) (v := 2) C dX7_turns_2 (by decide) ?_
  refine a_callS_Ir (pc := 3) (d' := 1) C dX7_turns_3 ml_X7_64 mc_X7_within ms_X7_within [.int x1, .int (0 : Int32), .int (2 : Int32)] rfl (Nat.le_of_ble_eq_true rfl) (Nat.le_of_ble_eq_true rfl) rfl (Nat.le_of_ble_eq_true rfl) (fun r h => c_X7_within N x1 (0 : Int32) (2 : Int32)  _  r h) hf (fun v1 hf => ?_)
  refine a_if_ne (pc := 6) 12 C dX7_turns_6 (by decide) hf (fun hf => ?_) (fun hf => ?_)
  · refine a_iload_n (pc := 12) C dX7_turns_12 1 rfl ?_
    refine a_jn 28 (fun a28 : Unit => [(0, .ref (ad 0)), (1, .int x1)]) (fun a28 : Unit => []) (fun a28 : Unit => M) hf (fun a28 hf => ?_) (fun k28 hk28 hf => ?_)
    · refine a_aload_n (pc := 28) C dX7_turns_28 0 rfl ?_
      refine a_getR (pc := 29) C dX7_turns_29 fl_X7_25 tx_0 rfl ?_
      refine a_aload_n (pc := 32) C dX7_turns_32 0 rfl ?_
      refine a_getR (pc := 33) C dX7_turns_33 fl_X7_12 tx_0 rfl ?_
      refine a_callV_V (pc := 36) (d' := 5) C dX7_turns_36 ml_X7_144 mc_X4_rateTurns mv_X4_rateTurns tx_19 rfl [.ref (ad 1)] rfl (Nat.le_of_ble_eq_true rfl) (Nat.le_of_ble_eq_true rfl) rfl (Nat.le_of_ble_eq_true rfl) (fun M' h => c_X4_rateTurns N 1 net_1 _  M' h) hf (fun M4 hf => ?_)
      refine a_iload_n (pc := 39) C dX7_turns_39 1 rfl ?_
      refine a_if_ne (pc := 40) 51 C dX7_turns_40 (by decide) hf (fun hf => ?_) (fun hf => ?_)
      · refine a_iload_n (pc := 51) C dX7_turns_51 1 rfl ?_
        refine a_iconst (pc := 52) (v := 1) C dX7_turns_52 (by decide) ?_
        refine a_icmp_ne (pc := 53) 66 C dX7_turns_53 (by decide) hf (fun hf => ?_) (fun hf => ?_)
        · refine a_aload_n (pc := 66) C dX7_turns_66 0 rfl ?_
          refine a_getR (pc := 67) C dX7_turns_67 fl_X7_25 tx_0 rfl ?_
          refine a_callV_Ir (pc := 70) (d' := 4) C dX7_turns_70 ml_X7_211 mc_X4_leastBest mv_X4_leastBest tx_19 rfl [] rfl (Nat.le_of_ble_eq_true rfl) (Nat.le_of_ble_eq_true rfl) rfl (Nat.le_of_ble_eq_true rfl) (fun r h => c_X4_leastBest N   _  r h) hf (fun v5 hf => ?_)
          exact a_iret (pc := 73) C dX7_turns_73 (so_1 hf) (so_2 hf)
        · refine a_aload_n (pc := 56) C dX7_turns_56 0 rfl ?_
          refine a_getR (pc := 57) C dX7_turns_57 fl_X7_25 tx_0 rfl ?_
          refine a_callV_Ir (pc := 60) (d' := 4) C dX7_turns_60 ml_X7_208 mc_X4_countBest mv_X4_countBest tx_19 rfl [] rfl (Nat.le_of_ble_eq_true rfl) (Nat.le_of_ble_eq_true rfl) rfl (Nat.le_of_ble_eq_true rfl) (fun r h => c_X4_countBest N   _  r h) hf (fun v7 hf => ?_)
          refine a_goto (pc := 63) 73 C dX7_turns_63 (by decide) ?_
          exact a_iret (pc := 73) C dX7_turns_73 (so_1 hf) (so_2 hf)
      · refine a_aload_n (pc := 43) C dX7_turns_43 0 rfl ?_
        refine a_getR (pc := 44) C dX7_turns_44 fl_X7_25 tx_0 rfl ?_
        refine a_callV_Ir (pc := 47) (d' := 1) C dX7_turns_47 ml_X7_205 mc_X4_countOpen mv_X4_countOpen tx_19 rfl [] rfl (Nat.le_of_ble_eq_true rfl) (Nat.le_of_ble_eq_true rfl) rfl (Nat.le_of_ble_eq_true rfl) (fun r h => c_X4_countOpen N   _  r h) hf (fun v9 hf => ?_)
        exact a_iret (pc := 50) C dX7_turns_50 (so_1 hf) (so_2 hf)
    · refine a_if_le (pc := 13) 28 C dX7_turns_13 (by decide) hf (fun hf => ?_) (fun hf => ?_)
      · exact a_sub [0, 1] rfl (hk28 () hf)
      · refine a_aload_n (pc := 16) C dX7_turns_16 0 rfl ?_
        refine a_getR (pc := 17) C dX7_turns_17 fl_X7_12 tx_0 rfl ?_
        refine a_getI (pc := 20) C dX7_turns_20 fl_X7_90 net_1.1 rfl ?_
        refine a_if_ne (pc := 23) 28 C dX7_turns_23 (by decide) hf (fun hf => ?_) (fun hf => ?_)
        · exact a_sub [0, 1] rfl (hk28 () hf)
        · refine a_iconst (pc := 26) (v := (-1)) C dX7_turns_26 (by decide) ?_
          exact a_iret (pc := 27) C dX7_turns_27 (so_1 hf) (so_2 hf)
  · refine a_bipush (pc := 9) (v := (-2)) C dX7_turns_9 (by decide) ?_
    exact a_iret (pc := 11) C dX7_turns_11 (so_1 hf) (so_2 hf)
theorem dX7_binds_0 : decode cX7_binds 0 = .ok (.aload_n 0, 1) := by decide +kernel
theorem dX7_binds_1 : decode cX7_binds 1 = .ok (.getfield 25, 3) := by decide +kernel
theorem dX7_binds_4 : decode cX7_binds 4 = .ok (.aload_n 0, 1) := by decide +kernel
theorem dX7_binds_5 : decode cX7_binds 5 = .ok (.getfield 12, 3) := by decide +kernel
theorem dX7_binds_8 : decode cX7_binds 8 = .ok (.invokevirtual 144, 3) := by decide +kernel
theorem dX7_binds_11 : decode cX7_binds 11 = .ok (.iconst 0, 1) := by decide +kernel
theorem dX7_binds_12 : decode cX7_binds 12 = .ok (.istore_n 1, 1) := by decide +kernel
theorem dX7_binds_13 : decode cX7_binds 13 = .ok (.iconst 0, 1) := by decide +kernel
theorem dX7_binds_14 : decode cX7_binds 14 = .ok (.istore_n 2, 1) := by decide +kernel
theorem dX7_binds_15 : decode cX7_binds 15 = .ok (.iload_n 2, 1) := by decide +kernel
theorem dX7_binds_16 : decode cX7_binds 16 = .ok (.aload_n 0, 1) := by decide +kernel
theorem dX7_binds_17 : decode cX7_binds 17 = .ok (.getfield 12, 3) := by decide +kernel
theorem dX7_binds_20 : decode cX7_binds 20 = .ok (.getfield 90, 3) := by decide +kernel
theorem dX7_binds_23 : decode cX7_binds 23 = .ok (.if_icmp .ge 26, 3) := by decide +kernel
theorem dX7_binds_26 : decode cX7_binds 26 = .ok (.aload_n 0, 1) := by decide +kernel
theorem dX7_binds_27 : decode cX7_binds 27 = .ok (.getfield 25, 3) := by decide +kernel
theorem dX7_binds_30 : decode cX7_binds 30 = .ok (.iload_n 2, 1) := by decide +kernel
theorem dX7_binds_31 : decode cX7_binds 31 = .ok (.invokevirtual 214, 3) := by decide +kernel
theorem dX7_binds_34 : decode cX7_binds 34 = .ok (.ifCond .eq 9, 3) := by decide +kernel
theorem dX7_binds_37 : decode cX7_binds 37 = .ok (.iload_n 1, 1) := by decide +kernel
theorem dX7_binds_38 : decode cX7_binds 38 = .ok (.iconst 1, 1) := by decide +kernel
theorem dX7_binds_39 : decode cX7_binds 39 = .ok (.iload_n 2, 1) := by decide +kernel
theorem dX7_binds_40 : decode cX7_binds 40 = .ok (.ishl, 1) := by decide +kernel
theorem dX7_binds_41 : decode cX7_binds 41 = .ok (.ior, 1) := by decide +kernel
theorem dX7_binds_42 : decode cX7_binds 42 = .ok (.istore_n 1, 1) := by decide +kernel
theorem dX7_binds_43 : decode cX7_binds 43 = .ok (.iinc 2 1, 3) := by decide +kernel
theorem dX7_binds_46 : decode cX7_binds 46 = .ok (.goto (-31), 3) := by decide +kernel
theorem dX7_binds_49 : decode cX7_binds 49 = .ok (.iload_n 1, 1) := by decide +kernel
theorem dX7_binds_50 : decode cX7_binds 50 = .ok (.ireturn, 1) := by decide +kernel
def f_X7_binds (N : Nat)  (M : Mem) : Option (Int32 × Mem) := bd (f_X4_rateTurns N 1 M) (fun M2 => lp (fun (k15 : (Int32 × Int32) → Option (Int32 × Mem)) (a15 : Int32 × Int32) => if (M2.1 1 1) ≤ a15.2 then (some (a15.1, M2)) else (bd (f_X4_isLessWithout N a15.2 M2) (fun v3 => jn (fun (a43 : Int32) => nm (a15.2 + (1 : Int32)) (fun v5 => k15 (a43, v5))) (fun (k43 : Int32 → Option (Int32 × Mem)) => if v3 = 0 then (k43 a15.1) else (nm (a15.1 ||| ((1 : Int32) <<< (a15.2 &&& 31))) (fun v6 => k43 v6)))))) N ((0 : Int32), (0 : Int32)))
set_option maxRecDepth 100000 in
set_option maxHeartbeats 4000000 in
theorem c_X7_binds {l : Launch} {D : va_G} {ac : Nat → ClassId} {A : Nat → Prop} {ad : Nat → Nat} {rest : va_W} (N : Nat)   (M : Mem) (r0 : Int32) (M0 : Mem) (hf : f_X7_binds N  M = some (r0, M0)) : CtI l D ac A tabX ad rest yX7_binds cX7_binds 3 .int 6 [.ref (ad 0)] M r0 M0 := by
  refine ct_ofI (own := RX7) (by decide +kernel) rfl (Nat.le_of_ble_eq_true rfl) ?_
  intro p e s m args below meth c C
  unfold f_X7_binds at hf
  refine a_L (L' := [(0, .ref (ad 0))]) rfl ?_
  refine a_aload_n (pc := 0) C dX7_binds_0 0 rfl ?_
  refine a_getR (pc := 1) C dX7_binds_1 fl_X7_25 tx_0 rfl ?_
  refine a_aload_n (pc := 4) C dX7_binds_4 0 rfl ?_
  refine a_getR (pc := 5) C dX7_binds_5 fl_X7_12 tx_0 rfl ?_
  refine a_callV_V (pc := 8) (d' := 5) C dX7_binds_8 ml_X7_144 mc_X4_rateTurns mv_X4_rateTurns tx_19 rfl [.ref (ad 1)] rfl (Nat.le_of_ble_eq_true rfl) (Nat.le_of_ble_eq_true rfl) rfl (Nat.le_of_ble_eq_true rfl) (fun M' h => c_X4_rateTurns N 1 net_1 _  M' h) hf (fun M2 hf => ?_)
  refine a_iconst (pc := 11) (v := 0) C dX7_binds_11 (by decide) ?_
  refine a_istore_n (pc := 12) [(1, .int (0 : Int32)), (0, .ref (ad 0))] C dX7_binds_12 (by decide) rfl ?_
  refine a_iconst (pc := 13) (v := 0) C dX7_binds_13 (by decide) ?_
  refine a_istore_n (pc := 14) [(2, .int (0 : Int32)), (1, .int (0 : Int32)), (0, .ref (ad 0))] C dX7_binds_14 (by decide) rfl ?_
  refine a_sub [2, 1, 0] rfl ?_
  refine a_lp 15 (fun a15 : Int32 × Int32 => [(0, .ref (ad 0)), (1, .int a15.1), (2, .int a15.2)]) (fun a15 : Int32 × Int32 => []) (fun a15 : Int32 × Int32 => M2) (fun k15 a15 hk15 hf => ?_) N ((0 : Int32), (0 : Int32)) hf
  refine a_iload_n (pc := 15) C dX7_binds_15 2 rfl ?_
  refine a_aload_n (pc := 16) C dX7_binds_16 0 rfl ?_
  refine a_getR (pc := 17) C dX7_binds_17 fl_X7_12 tx_0 rfl ?_
  refine a_getI (pc := 20) C dX7_binds_20 fl_X7_90 net_1.1 rfl ?_
  refine a_icmp_ge (pc := 23) 49 C dX7_binds_23 (by decide) hf (fun hf => ?_) (fun hf => ?_)
  · refine a_iload_n (pc := 49) C dX7_binds_49 1 rfl ?_
    exact a_iret (pc := 50) C dX7_binds_50 (so_1 hf) (so_2 hf)
  · refine a_aload_n (pc := 26) C dX7_binds_26 0 rfl ?_
    refine a_getR (pc := 27) C dX7_binds_27 fl_X7_25 tx_0 rfl ?_
    refine a_iload_n (pc := 30) C dX7_binds_30 2 rfl ?_
    refine a_callV_Ir (pc := 31) (d' := 4) C dX7_binds_31 ml_X7_214 mc_X4_isLessWithout mv_X4_isLessWithout tx_19 rfl [.int a15.2] rfl (Nat.le_of_ble_eq_true rfl) (Nat.le_of_ble_eq_true rfl) rfl (Nat.le_of_ble_eq_true rfl) (fun r h => c_X4_isLessWithout N a15.2  _  r h) hf (fun v3 hf => ?_)
    refine a_jn 43 (fun a43 : Int32 => [(0, .ref (ad 0)), (1, .int a43), (2, .int a15.2)]) (fun a43 : Int32 => []) (fun a43 : Int32 => M2) hf (fun a43 hf => ?_) (fun k43 hk43 hf => ?_)
    · refine a_iinc (pc := 43) (v := 1) (fun v5 => [(2, .int v5), (0, .ref (ad 0)), (1, .int a43)]) C dX7_binds_43 2 rfl (by decide) (by decide) (fun _ => rfl) hf (fun v5 hf => ?_)
      refine a_goto (pc := 46) 15 C dX7_binds_46 (by decide) ?_
      exact a_sub [1, 2, 0] rfl (hk15 (a43, v5) hf)
    · refine a_if_eq (pc := 34) 43 C dX7_binds_34 (by decide) hf (fun hf => ?_) (fun hf => ?_)
      · exact a_sub [0, 1, 2] rfl (hk43 a15.1 hf)
      · refine a_iload_n (pc := 37) C dX7_binds_37 1 rfl ?_
        refine a_iconst (pc := 38) (v := 1) C dX7_binds_38 (by decide) ?_
        refine a_iload_n (pc := 39) C dX7_binds_39 2 rfl ?_
        refine a_ishl (pc := 40) C dX7_binds_40 ?_
        refine a_ior (pc := 41) C dX7_binds_41 ?_
        refine a_nmi hf (fun v6 hf => ?_)
        refine a_istore_n (pc := 42) [(1, .int v6), (0, .ref (ad 0)), (2, .int a15.2)] C dX7_binds_42 (by decide) rfl ?_
        exact a_sub [1, 0, 2] rfl (hk43 v6 hf)
theorem dX7_room_0 : decode cX7_room 0 = .ok (.aload_n 0, 1) := by decide +kernel
theorem dX7_room_1 : decode cX7_room 1 = .ok (.getfield 12, 3) := by decide +kernel
theorem dX7_room_4 : decode cX7_room 4 = .ok (.iload_n 1, 1) := by decide +kernel
theorem dX7_room_5 : decode cX7_room 5 = .ok (.invokevirtual 100, 3) := by decide +kernel
theorem dX7_room_8 : decode cX7_room 8 = .ok (.ifCond .ne 6, 3) := by decide +kernel
theorem dX7_room_11 : decode cX7_room 11 = .ok (.bipush (-2), 2) := by decide +kernel
theorem dX7_room_13 : decode cX7_room 13 = .ok (.ireturn, 1) := by decide +kernel
theorem dX7_room_14 : decode cX7_room 14 = .ok (.aload_n 0, 1) := by decide +kernel
theorem dX7_room_15 : decode cX7_room 15 = .ok (.getfield 25, 3) := by decide +kernel
theorem dX7_room_18 : decode cX7_room 18 = .ok (.aload_n 0, 1) := by decide +kernel
theorem dX7_room_19 : decode cX7_room 19 = .ok (.getfield 12, 3) := by decide +kernel
theorem dX7_room_22 : decode cX7_room 22 = .ok (.invokevirtual 144, 3) := by decide +kernel
theorem dX7_room_25 : decode cX7_room 25 = .ok (.aload_n 0, 1) := by decide +kernel
theorem dX7_room_26 : decode cX7_room 26 = .ok (.getfield 25, 3) := by decide +kernel
theorem dX7_room_29 : decode cX7_room 29 = .ok (.iload_n 1, 1) := by decide +kernel
theorem dX7_room_30 : decode cX7_room 30 = .ok (.invokevirtual 217, 3) := by decide +kernel
theorem dX7_room_33 : decode cX7_room 33 = .ok (.ireturn, 1) := by decide +kernel
def f_X7_room (N : Nat) (x1 : Int32) (M : Mem) : Option (Int32 × Mem) := bd (f_X1_hasLine N 1 x1 M) (fun v1 => if v1 = 0 then (some ((-2 : Int32), M)) else (bd (f_X4_rateTurns N 1 M) (fun M4 => bd (f_X4_roomOf N x1 M4) (fun v5 => some (v5, M4)))))
set_option maxRecDepth 100000 in
set_option maxHeartbeats 4000000 in
theorem c_X7_room {l : Launch} {D : va_G} {ac : Nat → ClassId} {A : Nat → Prop} {ad : Nat → Nat} {rest : va_W} (N : Nat) (x1 : Int32)  (M : Mem) (r0 : Int32) (M0 : Mem) (hf : f_X7_room N x1 M = some (r0, M0)) : CtI l D ac A tabX ad rest yX7_room cX7_room 2 .int 6 [.ref (ad 0), .int x1] M r0 M0 := by
  refine ct_ofI (own := RX7) (by decide +kernel) rfl (Nat.le_of_ble_eq_true rfl) ?_
  intro p e s m args below meth c C
  unfold f_X7_room at hf
  refine a_L (L' := [(0, .ref (ad 0)), (1, .int x1)]) rfl ?_
  refine a_aload_n (pc := 0) C dX7_room_0 0 rfl ?_
  refine a_getR (pc := 1) C dX7_room_1 fl_X7_12 tx_0 rfl ?_
  refine a_iload_n (pc := 4) C dX7_room_4 1 rfl ?_
  refine a_callV_Ir (pc := 5) (d' := 1) C dX7_room_5 ml_X7_100 mc_X1_hasLine mv_X1_hasLine net_1.1 rfl [.int x1] rfl (Nat.le_of_ble_eq_true rfl) (Nat.le_of_ble_eq_true rfl) rfl (Nat.le_of_ble_eq_true rfl) (fun r h => c_X1_hasLine N 1 x1 net_1 _  r h) hf (fun v1 hf => ?_)
  refine a_if_ne (pc := 8) 14 C dX7_room_8 (by decide) hf (fun hf => ?_) (fun hf => ?_)
  · refine a_aload_n (pc := 14) C dX7_room_14 0 rfl ?_
    refine a_getR (pc := 15) C dX7_room_15 fl_X7_25 tx_0 rfl ?_
    refine a_aload_n (pc := 18) C dX7_room_18 0 rfl ?_
    refine a_getR (pc := 19) C dX7_room_19 fl_X7_12 tx_0 rfl ?_
    refine a_callV_V (pc := 22) (d' := 5) C dX7_room_22 ml_X7_144 mc_X4_rateTurns mv_X4_rateTurns tx_19 rfl [.ref (ad 1)] rfl (Nat.le_of_ble_eq_true rfl) (Nat.le_of_ble_eq_true rfl) rfl (Nat.le_of_ble_eq_true rfl) (fun M' h => c_X4_rateTurns N 1 net_1 _  M' h) hf (fun M4 hf => ?_)
    refine a_aload_n (pc := 25) C dX7_room_25 0 rfl ?_
    refine a_getR (pc := 26) C dX7_room_26 fl_X7_25 tx_0 rfl ?_
    refine a_iload_n (pc := 29) C dX7_room_29 1 rfl ?_
    refine a_callV_Ir (pc := 30) (d' := 4) C dX7_room_30 ml_X7_217 mc_X4_roomOf mv_X4_roomOf tx_19 rfl [.int x1] rfl (Nat.le_of_ble_eq_true rfl) (Nat.le_of_ble_eq_true rfl) rfl (Nat.le_of_ble_eq_true rfl) (fun r h => c_X4_roomOf N x1  _  r h) hf (fun v5 hf => ?_)
    exact a_iret (pc := 33) C dX7_room_33 (so_1 hf) (so_2 hf)
  · refine a_bipush (pc := 11) (v := (-2)) C dX7_room_11 (by decide) ?_
    exact a_iret (pc := 13) C dX7_room_13 (so_1 hf) (so_2 hf)
theorem dX7_findFirst_0 : decode cX7_findFirst 0 = .ok (.aload_n 0, 1) := by decide +kernel
theorem dX7_findFirst_1 : decode cX7_findFirst 1 = .ok (.getfield 25, 3) := by decide +kernel
theorem dX7_findFirst_4 : decode cX7_findFirst 4 = .ok (.aload_n 0, 1) := by decide +kernel
theorem dX7_findFirst_5 : decode cX7_findFirst 5 = .ok (.getfield 12, 3) := by decide +kernel
theorem dX7_findFirst_8 : decode cX7_findFirst 8 = .ok (.invokevirtual 144, 3) := by decide +kernel
theorem dX7_findFirst_11 : decode cX7_findFirst 11 = .ok (.aload_n 0, 1) := by decide +kernel
theorem dX7_findFirst_12 : decode cX7_findFirst 12 = .ok (.getfield 32, 3) := by decide +kernel
theorem dX7_findFirst_15 : decode cX7_findFirst 15 = .ok (.aload_n 0, 1) := by decide +kernel
theorem dX7_findFirst_16 : decode cX7_findFirst 16 = .ok (.getfield 12, 3) := by decide +kernel
theorem dX7_findFirst_19 : decode cX7_findFirst 19 = .ok (.iload_n 1, 1) := by decide +kernel
theorem dX7_findFirst_20 : decode cX7_findFirst 20 = .ok (.iload_n 2, 1) := by decide +kernel
theorem dX7_findFirst_21 : decode cX7_findFirst 21 = .ok (.iload_n 3, 1) := by decide +kernel
theorem dX7_findFirst_22 : decode cX7_findFirst 22 = .ok (.invokevirtual 148, 3) := by decide +kernel
theorem dX7_findFirst_25 : decode cX7_findFirst 25 = .ok (.aload_n 0, 1) := by decide +kernel
theorem dX7_findFirst_26 : decode cX7_findFirst 26 = .ok (.getfield 32, 3) := by decide +kernel
theorem dX7_findFirst_29 : decode cX7_findFirst 29 = .ok (.aload_n 0, 1) := by decide +kernel
theorem dX7_findFirst_30 : decode cX7_findFirst 30 = .ok (.getfield 12, 3) := by decide +kernel
theorem dX7_findFirst_33 : decode cX7_findFirst 33 = .ok (.aload_n 0, 1) := by decide +kernel
theorem dX7_findFirst_34 : decode cX7_findFirst 34 = .ok (.getfield 25, 3) := by decide +kernel
theorem dX7_findFirst_37 : decode cX7_findFirst 37 = .ok (.iconst 1, 1) := by decide +kernel
theorem dX7_findFirst_38 : decode cX7_findFirst 38 = .ok (.invokevirtual 152, 3) := by decide +kernel
theorem dX7_findFirst_41 : decode cX7_findFirst 41 = .ok (.ireturn, 1) := by decide +kernel
def f_X7_findFirst (N : Nat) (x1 : Int32) (x2 : Int32) (x3 : Int32) (M : Mem) : Option (Int32 × Mem) := bd (f_X4_rateTurns N 1 M) (fun M2 => bd (f_X2_prepare N 1 x1 x2 x3 M2) (fun M4 => bd (f_X2_finds N 1 (1 : Int32) M4) (fun w7 => ck (w7.1 = 0 ∨ w7.1 = 1) (some (w7.1, w7.2)))))
set_option maxRecDepth 100000 in
set_option maxHeartbeats 4000000 in
theorem c_X7_findFirst {l : Launch} {D : va_G} {ac : Nat → ClassId} {A : Nat → Prop} {ad : Nat → Nat} {rest : va_W} (N : Nat) (x1 : Int32) (x2 : Int32) (x3 : Int32)  (M : Mem) (r0 : Int32) (M0 : Mem) (hf : f_X7_findFirst N x1 x2 x3 M = some (r0, M0)) : CtI l D ac A tabX ad rest yX7_findFirst cX7_findFirst 4 .boolean 6 [.ref (ad 0), .int x1, .int x2, .int x3] M r0 M0 := by
  refine ct_ofI (own := RX7) (by decide +kernel) rfl (Nat.le_of_ble_eq_true rfl) ?_
  intro p e s m args below meth c C
  unfold f_X7_findFirst at hf
  refine a_L (L' := [(0, .ref (ad 0)), (1, .int x1), (2, .int x2), (3, .int x3)]) rfl ?_
  refine a_aload_n (pc := 0) C dX7_findFirst_0 0 rfl ?_
  refine a_getR (pc := 1) C dX7_findFirst_1 fl_X7_25 tx_0 rfl ?_
  refine a_aload_n (pc := 4) C dX7_findFirst_4 0 rfl ?_
  refine a_getR (pc := 5) C dX7_findFirst_5 fl_X7_12 tx_0 rfl ?_
  refine a_callV_V (pc := 8) (d' := 5) C dX7_findFirst_8 ml_X7_144 mc_X4_rateTurns mv_X4_rateTurns tx_19 rfl [.ref (ad 1)] rfl (Nat.le_of_ble_eq_true rfl) (Nat.le_of_ble_eq_true rfl) rfl (Nat.le_of_ble_eq_true rfl) (fun M' h => c_X4_rateTurns N 1 net_1 _  M' h) hf (fun M2 hf => ?_)
  refine a_aload_n (pc := 11) C dX7_findFirst_11 0 rfl ?_
  refine a_getR (pc := 12) C dX7_findFirst_12 fl_X7_32 tx_0 rfl ?_
  refine a_aload_n (pc := 15) C dX7_findFirst_15 0 rfl ?_
  refine a_getR (pc := 16) C dX7_findFirst_16 fl_X7_12 tx_0 rfl ?_
  refine a_iload_n (pc := 19) C dX7_findFirst_19 1 rfl ?_
  refine a_iload_n (pc := 20) C dX7_findFirst_20 2 rfl ?_
  refine a_iload_n (pc := 21) C dX7_findFirst_21 3 rfl ?_
  refine a_callV_V (pc := 22) (d' := 3) C dX7_findFirst_22 ml_X7_148 mc_X2_prepare mv_X2_prepare tx_26 rfl [.ref (ad 1), .int x1, .int x2, .int x3] rfl (Nat.le_of_ble_eq_true rfl) (Nat.le_of_ble_eq_true rfl) rfl (Nat.le_of_ble_eq_true rfl) (fun M' h => c_X2_prepare N 1 x1 x2 x3 net_1 _  M' h) hf (fun M4 hf => ?_)
  refine a_aload_n (pc := 25) C dX7_findFirst_25 0 rfl ?_
  refine a_getR (pc := 26) C dX7_findFirst_26 fl_X7_32 tx_0 rfl ?_
  refine a_aload_n (pc := 29) C dX7_findFirst_29 0 rfl ?_
  refine a_getR (pc := 30) C dX7_findFirst_30 fl_X7_12 tx_0 rfl ?_
  refine a_aload_n (pc := 33) C dX7_findFirst_33 0 rfl ?_
  refine a_getR (pc := 34) C dX7_findFirst_34 fl_X7_25 tx_0 rfl ?_
  refine a_iconst (pc := 37) (v := 1) C dX7_findFirst_37 (by decide) ?_
  refine a_callV_I (pc := 38) (d' := 4) C dX7_findFirst_38 ml_X7_152 mc_X2_finds mv_X2_finds tx_26 rfl [.ref (ad 1), .ref (ad 19), .int (1 : Int32)] rfl (Nat.le_of_ble_eq_true rfl) (Nat.le_of_ble_eq_true rfl) rfl (Nat.le_of_ble_eq_true rfl) (fun r M' h => c_X2_finds N 1 (1 : Int32) net_1 _  r M' h) hf (fun v5 M6 hf => ?_)
  exact a_zret (pc := 41) C dX7_findFirst_41 (ck_some hf).1 (so_1 (ck_some hf).2) (so_2 (ck_some hf).2)
theorem dX7_leastWhole_0 : decode cX7_leastWhole 0 = .ok (.aload_n 0, 1) := by decide +kernel
theorem dX7_leastWhole_1 : decode cX7_leastWhole 1 = .ok (.getfield 25, 3) := by decide +kernel
theorem dX7_leastWhole_4 : decode cX7_leastWhole 4 = .ok (.aload_n 0, 1) := by decide +kernel
theorem dX7_leastWhole_5 : decode cX7_leastWhole 5 = .ok (.getfield 12, 3) := by decide +kernel
theorem dX7_leastWhole_8 : decode cX7_leastWhole 8 = .ok (.invokevirtual 144, 3) := by decide +kernel
theorem dX7_leastWhole_11 : decode cX7_leastWhole 11 = .ok (.aload_n 0, 1) := by decide +kernel
theorem dX7_leastWhole_12 : decode cX7_leastWhole 12 = .ok (.getfield 25, 3) := by decide +kernel
theorem dX7_leastWhole_15 : decode cX7_leastWhole 15 = .ok (.getfield 169, 3) := by decide +kernel
theorem dX7_leastWhole_18 : decode cX7_leastWhole 18 = .ok (.iconst 1, 1) := by decide +kernel
theorem dX7_leastWhole_19 : decode cX7_leastWhole 19 = .ok (.if_icmp .ge 7, 3) := by decide +kernel
theorem dX7_leastWhole_22 : decode cX7_leastWhole 22 = .ok (.iconst (-1), 1) := by decide +kernel
theorem dX7_leastWhole_23 : decode cX7_leastWhole 23 = .ok (.goto 28, 3) := by decide +kernel
theorem dX7_leastWhole_26 : decode cX7_leastWhole 26 = .ok (.aload_n 0, 1) := by decide +kernel
theorem dX7_leastWhole_27 : decode cX7_leastWhole 27 = .ok (.getfield 25, 3) := by decide +kernel
theorem dX7_leastWhole_30 : decode cX7_leastWhole 30 = .ok (.getfield 166, 3) := by decide +kernel
theorem dX7_leastWhole_33 : decode cX7_leastWhole 33 = .ok (.aload_n 0, 1) := by decide +kernel
theorem dX7_leastWhole_34 : decode cX7_leastWhole 34 = .ok (.getfield 25, 3) := by decide +kernel
theorem dX7_leastWhole_37 : decode cX7_leastWhole 37 = .ok (.getfield 169, 3) := by decide +kernel
theorem dX7_leastWhole_40 : decode cX7_leastWhole 40 = .ok (.iadd, 1) := by decide +kernel
theorem dX7_leastWhole_41 : decode cX7_leastWhole 41 = .ok (.iconst 1, 1) := by decide +kernel
theorem dX7_leastWhole_42 : decode cX7_leastWhole 42 = .ok (.isub, 1) := by decide +kernel
theorem dX7_leastWhole_43 : decode cX7_leastWhole 43 = .ok (.aload_n 0, 1) := by decide +kernel
theorem dX7_leastWhole_44 : decode cX7_leastWhole 44 = .ok (.getfield 25, 3) := by decide +kernel
theorem dX7_leastWhole_47 : decode cX7_leastWhole 47 = .ok (.getfield 169, 3) := by decide +kernel
theorem dX7_leastWhole_50 : decode cX7_leastWhole 50 = .ok (.idiv, 1) := by decide +kernel
theorem dX7_leastWhole_51 : decode cX7_leastWhole 51 = .ok (.ireturn, 1) := by decide +kernel
def f_X7_leastWhole (N : Nat)  (M : Mem) : Option (Int32 × Mem) := bd (f_X4_rateTurns N 1 M) (fun M2 => if (1 : Int32) ≤ (M2.1 19 4) then (ck (¬ (M2.1 19 4) = 0) (some (((((M2.1 19 3) + (M2.1 19 4)) - (1 : Int32)) / (M2.1 19 4)), M2))) else (some ((-1 : Int32), M2)))
set_option maxRecDepth 100000 in
set_option maxHeartbeats 4000000 in
theorem c_X7_leastWhole {l : Launch} {D : va_G} {ac : Nat → ClassId} {A : Nat → Prop} {ad : Nat → Nat} {rest : va_W} (N : Nat)   (M : Mem) (r0 : Int32) (M0 : Mem) (hf : f_X7_leastWhole N  M = some (r0, M0)) : CtI l D ac A tabX ad rest yX7_leastWhole cX7_leastWhole 1 .int 6 [.ref (ad 0)] M r0 M0 := by
  refine ct_ofI (own := RX7) (by decide +kernel) rfl (Nat.le_of_ble_eq_true rfl) ?_
  intro p e s m args below meth c C
  unfold f_X7_leastWhole at hf
  refine a_L (L' := [(0, .ref (ad 0))]) rfl ?_
  refine a_aload_n (pc := 0) C dX7_leastWhole_0 0 rfl ?_
  refine a_getR (pc := 1) C dX7_leastWhole_1 fl_X7_25 tx_0 rfl ?_
  refine a_aload_n (pc := 4) C dX7_leastWhole_4 0 rfl ?_
  refine a_getR (pc := 5) C dX7_leastWhole_5 fl_X7_12 tx_0 rfl ?_
  refine a_callV_V (pc := 8) (d' := 5) C dX7_leastWhole_8 ml_X7_144 mc_X4_rateTurns mv_X4_rateTurns tx_19 rfl [.ref (ad 1)] rfl (Nat.le_of_ble_eq_true rfl) (Nat.le_of_ble_eq_true rfl) rfl (Nat.le_of_ble_eq_true rfl) (fun M' h => c_X4_rateTurns N 1 net_1 _  M' h) hf (fun M2 hf => ?_)
  refine a_aload_n (pc := 11) C dX7_leastWhole_11 0 rfl ?_
  refine a_getR (pc := 12) C dX7_leastWhole_12 fl_X7_25 tx_0 rfl ?_
  refine a_getI (pc := 15) C dX7_leastWhole_15 fl_X7_169 tx_19 rfl ?_
  refine a_iconst (pc := 18) (v := 1) C dX7_leastWhole_18 (by decide) ?_
  refine a_icmp_ge (pc := 19) 26 C dX7_leastWhole_19 (by decide) hf (fun hf => ?_) (fun hf => ?_)
  · refine a_aload_n (pc := 26) C dX7_leastWhole_26 0 rfl ?_
    refine a_getR (pc := 27) C dX7_leastWhole_27 fl_X7_25 tx_0 rfl ?_
    refine a_getI (pc := 30) C dX7_leastWhole_30 fl_X7_166 tx_19 rfl ?_
    refine a_aload_n (pc := 33) C dX7_leastWhole_33 0 rfl ?_
    refine a_getR (pc := 34) C dX7_leastWhole_34 fl_X7_25 tx_0 rfl ?_
    refine a_getI (pc := 37) C dX7_leastWhole_37 fl_X7_169 tx_19 rfl ?_
    refine a_iadd (pc := 40) C dX7_leastWhole_40 ?_
    refine a_iconst (pc := 41) (v := 1) C dX7_leastWhole_41 (by decide) ?_
    refine a_isub (pc := 42) C dX7_leastWhole_42 ?_
    refine a_aload_n (pc := 43) C dX7_leastWhole_43 0 rfl ?_
    refine a_getR (pc := 44) C dX7_leastWhole_44 fl_X7_25 tx_0 rfl ?_
    refine a_getI (pc := 47) C dX7_leastWhole_47 fl_X7_169 tx_19 rfl ?_
    refine a_idiv (pc := 50) C dX7_leastWhole_50 hf (fun hf => ?_)
    exact a_iret (pc := 51) C dX7_leastWhole_51 (so_1 hf) (so_2 hf)
  · refine a_iconst (pc := 22) (v := (-1)) C dX7_leastWhole_22 (by decide) ?_
    refine a_goto (pc := 23) 51 C dX7_leastWhole_23 (by decide) ?_
    exact a_iret (pc := 51) C dX7_leastWhole_51 (so_1 hf) (so_2 hf)
theorem dX8_ratio_0 : decode cX8_ratio 0 = .ok (.iload_n 1, 1) := by decide +kernel
theorem dX8_ratio_1 : decode cX8_ratio 1 = .ok (.i2l, 1) := by decide +kernel
theorem dX8_ratio_2 : decode cX8_ratio 2 = .ok (.lconst 0, 1) := by decide +kernel
theorem dX8_ratio_3 : decode cX8_ratio 3 = .ok (.lconst 1, 1) := by decide +kernel
theorem dX8_ratio_4 : decode cX8_ratio 4 = .ok (.invokestatic 98, 3) := by decide +kernel
theorem dX8_ratio_7 : decode cX8_ratio 7 = .ok (.ifCond .ne 6, 3) := by decide +kernel
theorem dX8_ratio_10 : decode cX8_ratio 10 = .ok (.bipush (-2), 2) := by decide +kernel
theorem dX8_ratio_12 : decode cX8_ratio 12 = .ok (.ireturn, 1) := by decide +kernel
theorem dX8_ratio_13 : decode cX8_ratio 13 = .ok (.aload_n 0, 1) := by decide +kernel
theorem dX8_ratio_14 : decode cX8_ratio 14 = .ok (.invokevirtual 227, 3) := by decide +kernel
theorem dX8_ratio_17 : decode cX8_ratio 17 = .ok (.aload_n 0, 1) := by decide +kernel
theorem dX8_ratio_18 : decode cX8_ratio 18 = .ok (.iconst 1, 1) := by decide +kernel
theorem dX8_ratio_19 : decode cX8_ratio 19 = .ok (.aload_n 0, 1) := by decide +kernel
theorem dX8_ratio_20 : decode cX8_ratio 20 = .ok (.getfield 102, 3) := by decide +kernel
theorem dX8_ratio_23 : decode cX8_ratio 23 = .ok (.ishl, 1) := by decide +kernel
theorem dX8_ratio_24 : decode cX8_ratio 24 = .ok (.iconst 1, 1) := by decide +kernel
theorem dX8_ratio_25 : decode cX8_ratio 25 = .ok (.isub, 1) := by decide +kernel
theorem dX8_ratio_26 : decode cX8_ratio 26 = .ok (.invokevirtual 230, 3) := by decide +kernel
theorem dX8_ratio_29 : decode cX8_ratio 29 = .ok (.iload_n 1, 1) := by decide +kernel
theorem dX8_ratio_30 : decode cX8_ratio 30 = .ok (.ifCond .ne 10, 3) := by decide +kernel
theorem dX8_ratio_33 : decode cX8_ratio 33 = .ok (.aload_n 0, 1) := by decide +kernel
theorem dX8_ratio_34 : decode cX8_ratio 34 = .ok (.getfield 215, 3) := by decide +kernel
theorem dX8_ratio_37 : decode cX8_ratio 37 = .ok (.goto 7, 3) := by decide +kernel
theorem dX8_ratio_40 : decode cX8_ratio 40 = .ok (.aload_n 0, 1) := by decide +kernel
theorem dX8_ratio_41 : decode cX8_ratio 41 = .ok (.getfield 218, 3) := by decide +kernel
theorem dX8_ratio_44 : decode cX8_ratio 44 = .ok (.ireturn, 1) := by decide +kernel
def f_X8_ratio (N : Nat) (x1 : Int32) (M : Mem) : Option (Int32 × Mem) := bd (f_X8_in N x1.toInt64 (0 : Int64) (1 : Int64) M) (fun v1 => if v1 = 0 then (some ((-2 : Int32), M)) else (bd (f_X8_laysRings N  M) (fun M4 => bd (f_X8_ratios N (((1 : Int32) <<< ((M4.1 0 1) &&& 31)) - (1 : Int32)) M4) (fun M6 => if x1 = 0 then (some ((M6.1 0 20), M6)) else (some ((M6.1 0 21), M6))))))
set_option maxRecDepth 100000 in
set_option maxHeartbeats 4000000 in
theorem c_X8_ratio {l : Launch} {D : va_G} {ac : Nat → ClassId} {A : Nat → Prop} {ad : Nat → Nat} {rest : va_W} (N : Nat) (x1 : Int32)  (M : Mem) (r0 : Int32) (M0 : Mem) (hf : f_X8_ratio N x1 M = some (r0, M0)) : CtI l D ac A tabM ad rest yX8_ratio cX8_ratio 2 .int 6 [.ref (ad 0), .int x1] M r0 M0 := by
  refine ct_ofI (own := RX8) (by decide +kernel) rfl (Nat.le_of_ble_eq_true rfl) ?_
  intro p e s m args below meth c C
  unfold f_X8_ratio at hf
  refine a_L (L' := [(0, .ref (ad 0)), (1, .int x1)]) rfl ?_
  refine a_iload_n (pc := 0) C dX8_ratio_0 1 rfl ?_
  refine a_i2l (pc := 1) C dX8_ratio_1 ?_
  refine a_lconst (pc := 2) (v := 0) C dX8_ratio_2 (by decide) ?_
  refine a_lconst (pc := 3) (v := 1) C dX8_ratio_3 (by decide) ?_
  refine a_callS_Ir (pc := 4) (d' := 1) C dX8_ratio_4 ml_X8_98 mc_X8_in ms_X8_in [.long x1.toInt64, .long (0 : Int64), .long (1 : Int64)] rfl (Nat.le_of_ble_eq_true rfl) (Nat.le_of_ble_eq_true rfl) rfl (Nat.le_of_ble_eq_true rfl) (fun r h => c_X8_in N x1.toInt64 (0 : Int64) (1 : Int64)  _  r h) hf (fun v1 hf => ?_)
  refine a_if_ne (pc := 7) 13 C dX8_ratio_7 (by decide) hf (fun hf => ?_) (fun hf => ?_)
  · refine a_aload_n (pc := 13) C dX8_ratio_13 0 rfl ?_
    refine a_callV_V (pc := 14) (d' := 3) C dX8_ratio_14 ml_X8_227 mc_X8_laysRings mv_X8_laysRings tm_0 rfl [] rfl (Nat.le_of_ble_eq_true rfl) (Nat.le_of_ble_eq_true rfl) rfl (Nat.le_of_ble_eq_true rfl) (fun M' h => c_X8_laysRings N   _  M' h) hf (fun M4 hf => ?_)
    refine a_aload_n (pc := 17) C dX8_ratio_17 0 rfl ?_
    refine a_iconst (pc := 18) (v := 1) C dX8_ratio_18 (by decide) ?_
    refine a_aload_n (pc := 19) C dX8_ratio_19 0 rfl ?_
    refine a_getI (pc := 20) C dX8_ratio_20 fl_X8_102 tm_0 rfl ?_
    refine a_ishl (pc := 23) C dX8_ratio_23 ?_
    refine a_iconst (pc := 24) (v := 1) C dX8_ratio_24 (by decide) ?_
    refine a_isub (pc := 25) C dX8_ratio_25 ?_
    refine a_callV_V (pc := 26) (d' := 5) C dX8_ratio_26 ml_X8_230 mc_X8_ratios mv_X8_ratios tm_0 rfl [.int (((1 : Int32) <<< ((M4.1 0 1) &&& 31)) - (1 : Int32))] rfl (Nat.le_of_ble_eq_true rfl) (Nat.le_of_ble_eq_true rfl) rfl (Nat.le_of_ble_eq_true rfl) (fun M' h => c_X8_ratios N (((1 : Int32) <<< ((M4.1 0 1) &&& 31)) - (1 : Int32))  _  M' h) hf (fun M6 hf => ?_)
    refine a_iload_n (pc := 29) C dX8_ratio_29 1 rfl ?_
    refine a_if_ne (pc := 30) 40 C dX8_ratio_30 (by decide) hf (fun hf => ?_) (fun hf => ?_)
    · refine a_aload_n (pc := 40) C dX8_ratio_40 0 rfl ?_
      refine a_getI (pc := 41) C dX8_ratio_41 fl_X8_218 tm_0 rfl ?_
      exact a_iret (pc := 44) C dX8_ratio_44 (so_1 hf) (so_2 hf)
    · refine a_aload_n (pc := 33) C dX8_ratio_33 0 rfl ?_
      refine a_getI (pc := 34) C dX8_ratio_34 fl_X8_215 tm_0 rfl ?_
      refine a_goto (pc := 37) 44 C dX8_ratio_37 (by decide) ?_
      exact a_iret (pc := 44) C dX8_ratio_44 (so_1 hf) (so_2 hf)
  · refine a_bipush (pc := 10) (v := (-2)) C dX8_ratio_10 (by decide) ?_
    exact a_iret (pc := 12) C dX8_ratio_12 (so_1 hf) (so_2 hf)
theorem dX8_circled_0 : decode cX8_circled 0 = .ok (.aload_n 0, 1) := by decide +kernel
theorem dX8_circled_1 : decode cX8_circled 1 = .ok (.iload_n 1, 1) := by decide +kernel
theorem dX8_circled_2 : decode cX8_circled 2 = .ok (.invokevirtual 239, 3) := by decide +kernel
theorem dX8_circled_5 : decode cX8_circled 5 = .ok (.ifCond .ne 8, 3) := by decide +kernel
theorem dX8_circled_8 : decode cX8_circled 8 = .ok (.bipush (-2), 2) := by decide +kernel
theorem dX8_circled_10 : decode cX8_circled 10 = .ok (.goto 16, 3) := by decide +kernel
theorem dX8_circled_13 : decode cX8_circled 13 = .ok (.aload_n 0, 1) := by decide +kernel
theorem dX8_circled_14 : decode cX8_circled 14 = .ok (.iload_n 1, 1) := by decide +kernel
theorem dX8_circled_15 : decode cX8_circled 15 = .ok (.invokevirtual 242, 3) := by decide +kernel
theorem dX8_circled_18 : decode cX8_circled 18 = .ok (.ifCond .eq 7, 3) := by decide +kernel
theorem dX8_circled_21 : decode cX8_circled 21 = .ok (.iconst 0, 1) := by decide +kernel
theorem dX8_circled_22 : decode cX8_circled 22 = .ok (.goto 4, 3) := by decide +kernel
theorem dX8_circled_25 : decode cX8_circled 25 = .ok (.iconst 1, 1) := by decide +kernel
theorem dX8_circled_26 : decode cX8_circled 26 = .ok (.ireturn, 1) := by decide +kernel
def f_X8_circled (N : Nat) (x1 : Int32) (M : Mem) : Option (Int32 × Mem) := bd (f_X8_isTurn N x1 M) (fun v1 => if v1 = 0 then (some ((-2 : Int32), M)) else (bd (f_X8_isFree N x1 M) (fun w5 => if w5.1 = 0 then (some ((1 : Int32), w5.2)) else (some ((0 : Int32), w5.2)))))
set_option maxRecDepth 100000 in
set_option maxHeartbeats 4000000 in
theorem c_X8_circled {l : Launch} {D : va_G} {ac : Nat → ClassId} {A : Nat → Prop} {ad : Nat → Nat} {rest : va_W} (N : Nat) (x1 : Int32)  (M : Mem) (r0 : Int32) (M0 : Mem) (hf : f_X8_circled N x1 M = some (r0, M0)) : CtI l D ac A tabM ad rest yX8_circled cX8_circled 2 .int 6 [.ref (ad 0), .int x1] M r0 M0 := by
  refine ct_ofI (own := RX8) (by decide +kernel) rfl (Nat.le_of_ble_eq_true rfl) ?_
  intro p e s m args below meth c C
  unfold f_X8_circled at hf
  refine a_L (L' := [(0, .ref (ad 0)), (1, .int x1)]) rfl ?_
  refine a_aload_n (pc := 0) C dX8_circled_0 0 rfl ?_
  refine a_iload_n (pc := 1) C dX8_circled_1 1 rfl ?_
  refine a_callV_Ir (pc := 2) (d' := 1) C dX8_circled_2 ml_X8_239 mc_X8_isTurn mv_X8_isTurn tm_0 rfl [.int x1] rfl (Nat.le_of_ble_eq_true rfl) (Nat.le_of_ble_eq_true rfl) rfl (Nat.le_of_ble_eq_true rfl) (fun r h => c_X8_isTurn N x1  _  r h) hf (fun v1 hf => ?_)
  refine a_if_ne (pc := 5) 13 C dX8_circled_5 (by decide) hf (fun hf => ?_) (fun hf => ?_)
  · refine a_aload_n (pc := 13) C dX8_circled_13 0 rfl ?_
    refine a_iload_n (pc := 14) C dX8_circled_14 1 rfl ?_
    refine a_callV_I (pc := 15) (d' := 5) C dX8_circled_15 ml_X8_242 mc_X8_isFree mv_X8_isFree tm_0 rfl [.int x1] rfl (Nat.le_of_ble_eq_true rfl) (Nat.le_of_ble_eq_true rfl) rfl (Nat.le_of_ble_eq_true rfl) (fun r M' h => c_X8_isFree N x1  _  r M' h) hf (fun v3 M4 hf => ?_)
    refine a_if_eq (pc := 18) 25 C dX8_circled_18 (by decide) hf (fun hf => ?_) (fun hf => ?_)
    · refine a_iconst (pc := 25) (v := 1) C dX8_circled_25 (by decide) ?_
      exact a_iret (pc := 26) C dX8_circled_26 (so_1 hf) (so_2 hf)
    · refine a_iconst (pc := 21) (v := 0) C dX8_circled_21 (by decide) ?_
      refine a_goto (pc := 22) 26 C dX8_circled_22 (by decide) ?_
      exact a_iret (pc := 26) C dX8_circled_26 (so_1 hf) (so_2 hf)
  · refine a_bipush (pc := 8) (v := (-2)) C dX8_circled_8 (by decide) ?_
    refine a_goto (pc := 10) 26 C dX8_circled_10 (by decide) ?_
    exact a_iret (pc := 26) C dX8_circled_26 (so_1 hf) (so_2 hf)
theorem dX8_rate_0 : decode cX8_rate 0 = .ok (.aload_n 0, 1) := by decide +kernel
theorem dX8_rate_1 : decode cX8_rate 1 = .ok (.iload_n 1, 1) := by decide +kernel
theorem dX8_rate_2 : decode cX8_rate 2 = .ok (.invokevirtual 239, 3) := by decide +kernel
theorem dX8_rate_5 : decode cX8_rate 5 = .ok (.ifCond .eq 13, 3) := by decide +kernel
theorem dX8_rate_8 : decode cX8_rate 8 = .ok (.iload_n 2, 1) := by decide +kernel
theorem dX8_rate_9 : decode cX8_rate 9 = .ok (.i2l, 1) := by decide +kernel
theorem dX8_rate_10 : decode cX8_rate 10 = .ok (.lconst 0, 1) := by decide +kernel
theorem dX8_rate_11 : decode cX8_rate 11 = .ok (.lconst 1, 1) := by decide +kernel
theorem dX8_rate_12 : decode cX8_rate 12 = .ok (.invokestatic 98, 3) := by decide +kernel
theorem dX8_rate_15 : decode cX8_rate 15 = .ok (.ifCond .ne 6, 3) := by decide +kernel
theorem dX8_rate_18 : decode cX8_rate 18 = .ok (.bipush (-2), 2) := by decide +kernel
theorem dX8_rate_20 : decode cX8_rate 20 = .ok (.ireturn, 1) := by decide +kernel
theorem dX8_rate_21 : decode cX8_rate 21 = .ok (.aload_n 0, 1) := by decide +kernel
theorem dX8_rate_22 : decode cX8_rate 22 = .ok (.iload_n 1, 1) := by decide +kernel
theorem dX8_rate_23 : decode cX8_rate 23 = .ok (.invokevirtual 242, 3) := by decide +kernel
theorem dX8_rate_26 : decode cX8_rate 26 = .ok (.ifCond .ne 6, 3) := by decide +kernel
theorem dX8_rate_29 : decode cX8_rate 29 = .ok (.bipush (-3), 2) := by decide +kernel
theorem dX8_rate_31 : decode cX8_rate 31 = .ok (.ireturn, 1) := by decide +kernel
theorem dX8_rate_32 : decode cX8_rate 32 = .ok (.aload_n 0, 1) := by decide +kernel
theorem dX8_rate_33 : decode cX8_rate 33 = .ok (.getfield 102, 3) := by decide +kernel
theorem dX8_rate_36 : decode cX8_rate 36 = .ok (.ifCond .ne 7, 3) := by decide +kernel
theorem dX8_rate_39 : decode cX8_rate 39 = .ok (.iconst (-1), 1) := by decide +kernel
theorem dX8_rate_40 : decode cX8_rate 40 = .ok (.goto 30, 3) := by decide +kernel
theorem dX8_rate_43 : decode cX8_rate 43 = .ok (.iload_n 2, 1) := by decide +kernel
theorem dX8_rate_44 : decode cX8_rate 44 = .ok (.ifCond .ne 10, 3) := by decide +kernel
theorem dX8_rate_47 : decode cX8_rate 47 = .ok (.aload_n 0, 1) := by decide +kernel
theorem dX8_rate_48 : decode cX8_rate 48 = .ok (.getfield 203, 3) := by decide +kernel
theorem dX8_rate_51 : decode cX8_rate 51 = .ok (.goto 7, 3) := by decide +kernel
theorem dX8_rate_54 : decode cX8_rate 54 = .ok (.aload_n 0, 1) := by decide +kernel
theorem dX8_rate_55 : decode cX8_rate 55 = .ok (.getfield 206, 3) := by decide +kernel
theorem dX8_rate_58 : decode cX8_rate 58 = .ok (.aload_n 0, 1) := by decide +kernel
theorem dX8_rate_59 : decode cX8_rate 59 = .ok (.getfield 203, 3) := by decide +kernel
theorem dX8_rate_62 : decode cX8_rate 62 = .ok (.aload_n 0, 1) := by decide +kernel
theorem dX8_rate_63 : decode cX8_rate 63 = .ok (.getfield 206, 3) := by decide +kernel
theorem dX8_rate_66 : decode cX8_rate 66 = .ok (.invokestatic 224, 3) := by decide +kernel
theorem dX8_rate_69 : decode cX8_rate 69 = .ok (.idiv, 1) := by decide +kernel
theorem dX8_rate_70 : decode cX8_rate 70 = .ok (.ireturn, 1) := by decide +kernel
def f_X8_rate (N : Nat) (x1 : Int32) (x2 : Int32) (M : Mem) : Option (Int32 × Mem) := bd (f_X8_isTurn N x1 M) (fun v1 => if v1 = 0 then (some ((-2 : Int32), M)) else (bd (f_X8_in N x2.toInt64 (0 : Int64) (1 : Int64) M) (fun v3 => if v3 = 0 then (some ((-2 : Int32), M)) else (bd (f_X8_isFree N x1 M) (fun w7 => if w7.1 = 0 then (some ((-3 : Int32), w7.2)) else (if (w7.2.1 0 1) = 0 then (some ((-1 : Int32), w7.2)) else (jn (fun (a58 : Int32) => bd (f_X8_common N (w7.2.1 0 18) (w7.2.1 0 19) w7.2) (fun v8 => ck (¬ v8 = 0) (some ((a58 / v8), w7.2)))) (fun (k58 : Int32 → Option (Int32 × Mem)) => if x2 = 0 then (k58 (w7.2.1 0 18)) else (k58 (w7.2.1 0 19))))))))))
set_option maxRecDepth 100000 in
set_option maxHeartbeats 4000000 in
theorem c_X8_rate {l : Launch} {D : va_G} {ac : Nat → ClassId} {A : Nat → Prop} {ad : Nat → Nat} {rest : va_W} (N : Nat) (x1 : Int32) (x2 : Int32)  (M : Mem) (r0 : Int32) (M0 : Mem) (hf : f_X8_rate N x1 x2 M = some (r0, M0)) : CtI l D ac A tabM ad rest yX8_rate cX8_rate 3 .int 6 [.ref (ad 0), .int x1, .int x2] M r0 M0 := by
  refine ct_ofI (own := RX8) (by decide +kernel) rfl (Nat.le_of_ble_eq_true rfl) ?_
  intro p e s m args below meth c C
  unfold f_X8_rate at hf
  refine a_L (L' := [(0, .ref (ad 0)), (1, .int x1), (2, .int x2)]) rfl ?_
  refine a_aload_n (pc := 0) C dX8_rate_0 0 rfl ?_
  refine a_iload_n (pc := 1) C dX8_rate_1 1 rfl ?_
  refine a_callV_Ir (pc := 2) (d' := 1) C dX8_rate_2 ml_X8_239 mc_X8_isTurn mv_X8_isTurn tm_0 rfl [.int x1] rfl (Nat.le_of_ble_eq_true rfl) (Nat.le_of_ble_eq_true rfl) rfl (Nat.le_of_ble_eq_true rfl) (fun r h => c_X8_isTurn N x1  _  r h) hf (fun v1 hf => ?_)
  refine a_if_eq (pc := 5) 18 C dX8_rate_5 (by decide) hf (fun hf => ?_) (fun hf => ?_)
  · refine a_bipush (pc := 18) (v := (-2)) C dX8_rate_18 (by decide) ?_
    exact a_iret (pc := 20) C dX8_rate_20 (so_1 hf) (so_2 hf)
  · refine a_iload_n (pc := 8) C dX8_rate_8 2 rfl ?_
    refine a_i2l (pc := 9) C dX8_rate_9 ?_
    refine a_lconst (pc := 10) (v := 0) C dX8_rate_10 (by decide) ?_
    refine a_lconst (pc := 11) (v := 1) C dX8_rate_11 (by decide) ?_
    refine a_callS_Ir (pc := 12) (d' := 1) C dX8_rate_12 ml_X8_98 mc_X8_in ms_X8_in [.long x2.toInt64, .long (0 : Int64), .long (1 : Int64)] rfl (Nat.le_of_ble_eq_true rfl) (Nat.le_of_ble_eq_true rfl) rfl (Nat.le_of_ble_eq_true rfl) (fun r h => c_X8_in N x2.toInt64 (0 : Int64) (1 : Int64)  _  r h) hf (fun v3 hf => ?_)
    refine a_if_ne (pc := 15) 21 C dX8_rate_15 (by decide) hf (fun hf => ?_) (fun hf => ?_)
    · refine a_aload_n (pc := 21) C dX8_rate_21 0 rfl ?_
      refine a_iload_n (pc := 22) C dX8_rate_22 1 rfl ?_
      refine a_callV_I (pc := 23) (d' := 5) C dX8_rate_23 ml_X8_242 mc_X8_isFree mv_X8_isFree tm_0 rfl [.int x1] rfl (Nat.le_of_ble_eq_true rfl) (Nat.le_of_ble_eq_true rfl) rfl (Nat.le_of_ble_eq_true rfl) (fun r M' h => c_X8_isFree N x1  _  r M' h) hf (fun v5 M6 hf => ?_)
      refine a_if_ne (pc := 26) 32 C dX8_rate_26 (by decide) hf (fun hf => ?_) (fun hf => ?_)
      · refine a_aload_n (pc := 32) C dX8_rate_32 0 rfl ?_
        refine a_getI (pc := 33) C dX8_rate_33 fl_X8_102 tm_0 rfl ?_
        refine a_if_ne (pc := 36) 43 C dX8_rate_36 (by decide) hf (fun hf => ?_) (fun hf => ?_)
        · refine a_iload_n (pc := 43) C dX8_rate_43 2 rfl ?_
          refine a_jn 58 (fun a58 : Int32 => [(0, .ref (ad 0))]) (fun a58 : Int32 => [.int a58]) (fun a58 : Int32 => M6) hf (fun a58 hf => ?_) (fun k58 hk58 hf => ?_)
          · refine a_aload_n (pc := 58) C dX8_rate_58 0 rfl ?_
            refine a_getI (pc := 59) C dX8_rate_59 fl_X8_203 tm_0 rfl ?_
            refine a_aload_n (pc := 62) C dX8_rate_62 0 rfl ?_
            refine a_getI (pc := 63) C dX8_rate_63 fl_X8_206 tm_0 rfl ?_
            refine a_callS_Ir (pc := 66) (d' := 1) C dX8_rate_66 ml_X8_224 mc_X8_common ms_X8_common [.int (M6.1 0 18), .int (M6.1 0 19)] rfl (Nat.le_of_ble_eq_true rfl) (Nat.le_of_ble_eq_true rfl) rfl (Nat.le_of_ble_eq_true rfl) (fun r h => c_X8_common N (M6.1 0 18) (M6.1 0 19)  _  r h) hf (fun v8 hf => ?_)
            refine a_idiv (pc := 69) C dX8_rate_69 hf (fun hf => ?_)
            exact a_iret (pc := 70) C dX8_rate_70 (so_1 hf) (so_2 hf)
          · refine a_if_ne (pc := 44) 54 C dX8_rate_44 (by decide) hf (fun hf => ?_) (fun hf => ?_)
            · refine a_aload_n (pc := 54) C dX8_rate_54 0 rfl ?_
              refine a_getI (pc := 55) C dX8_rate_55 fl_X8_206 tm_0 rfl ?_
              exact a_sub [0] rfl (hk58 (M6.1 0 19) hf)
            · refine a_aload_n (pc := 47) C dX8_rate_47 0 rfl ?_
              refine a_getI (pc := 48) C dX8_rate_48 fl_X8_203 tm_0 rfl ?_
              refine a_goto (pc := 51) 58 C dX8_rate_51 (by decide) ?_
              exact a_sub [0] rfl (hk58 (M6.1 0 18) hf)
        · refine a_iconst (pc := 39) (v := (-1)) C dX8_rate_39 (by decide) ?_
          refine a_goto (pc := 40) 70 C dX8_rate_40 (by decide) ?_
          exact a_iret (pc := 70) C dX8_rate_70 (so_1 hf) (so_2 hf)
      · refine a_bipush (pc := 29) (v := (-3)) C dX8_rate_29 (by decide) ?_
        exact a_iret (pc := 31) C dX8_rate_31 (so_1 hf) (so_2 hf)
    · refine a_bipush (pc := 18) (v := (-2)) C dX8_rate_18 (by decide) ?_
      exact a_iret (pc := 20) C dX8_rate_20 (so_1 hf) (so_2 hf)
theorem dX8_worst_0 : decode cX8_worst 0 = .ok (.aload_n 0, 1) := by decide +kernel
theorem dX8_worst_1 : decode cX8_worst 1 = .ok (.iload_n 1, 1) := by decide +kernel
theorem dX8_worst_2 : decode cX8_worst 2 = .ok (.invokevirtual 239, 3) := by decide +kernel
theorem dX8_worst_5 : decode cX8_worst 5 = .ok (.ifCond .ne 6, 3) := by decide +kernel
theorem dX8_worst_8 : decode cX8_worst 8 = .ok (.bipush (-2), 2) := by decide +kernel
theorem dX8_worst_10 : decode cX8_worst 10 = .ok (.ireturn, 1) := by decide +kernel
theorem dX8_worst_11 : decode cX8_worst 11 = .ok (.aload_n 0, 1) := by decide +kernel
theorem dX8_worst_12 : decode cX8_worst 12 = .ok (.iload_n 1, 1) := by decide +kernel
theorem dX8_worst_13 : decode cX8_worst 13 = .ok (.invokevirtual 242, 3) := by decide +kernel
theorem dX8_worst_16 : decode cX8_worst 16 = .ok (.ifCond .ne 6, 3) := by decide +kernel
theorem dX8_worst_19 : decode cX8_worst 19 = .ok (.bipush (-3), 2) := by decide +kernel
theorem dX8_worst_21 : decode cX8_worst 21 = .ok (.ireturn, 1) := by decide +kernel
theorem dX8_worst_22 : decode cX8_worst 22 = .ok (.iconst (-1), 1) := by decide +kernel
theorem dX8_worst_23 : decode cX8_worst 23 = .ok (.istore_n 2, 1) := by decide +kernel
theorem dX8_worst_24 : decode cX8_worst 24 = .ok (.aload_n 0, 1) := by decide +kernel
theorem dX8_worst_25 : decode cX8_worst 25 = .ok (.getfield 197, 3) := by decide +kernel
theorem dX8_worst_28 : decode cX8_worst 28 = .ok (.iconst 1, 1) := by decide +kernel
theorem dX8_worst_29 : decode cX8_worst 29 = .ok (.isub, 1) := by decide +kernel
theorem dX8_worst_30 : decode cX8_worst 30 = .ok (.istore_n 3, 1) := by decide +kernel
theorem dX8_worst_31 : decode cX8_worst 31 = .ok (.iload_n 3, 1) := by decide +kernel
theorem dX8_worst_32 : decode cX8_worst 32 = .ok (.ifCond .lt 49, 3) := by decide +kernel
theorem dX8_worst_35 : decode cX8_worst 35 = .ok (.aload_n 0, 1) := by decide +kernel
theorem dX8_worst_36 : decode cX8_worst 36 = .ok (.aload_n 0, 1) := by decide +kernel
theorem dX8_worst_37 : decode cX8_worst 37 = .ok (.getfield 41, 3) := by decide +kernel
theorem dX8_worst_40 : decode cX8_worst 40 = .ok (.iload_n 3, 1) := by decide +kernel
theorem dX8_worst_41 : decode cX8_worst 41 = .ok (.iaload, 1) := by decide +kernel
theorem dX8_worst_42 : decode cX8_worst 42 = .ok (.invokevirtual 212, 3) := by decide +kernel
theorem dX8_worst_45 : decode cX8_worst 45 = .ok (.aload_n 0, 1) := by decide +kernel
theorem dX8_worst_46 : decode cX8_worst 46 = .ok (.getfield 206, 3) := by decide +kernel
theorem dX8_worst_49 : decode cX8_worst 49 = .ok (.imul, 1) := by decide +kernel
theorem dX8_worst_50 : decode cX8_worst 50 = .ok (.aload_n 0, 1) := by decide +kernel
theorem dX8_worst_51 : decode cX8_worst 51 = .ok (.getfield 203, 3) := by decide +kernel
theorem dX8_worst_54 : decode cX8_worst 54 = .ok (.aload_n 0, 1) := by decide +kernel
theorem dX8_worst_55 : decode cX8_worst 55 = .ok (.iload_n 3, 1) := by decide +kernel
theorem dX8_worst_56 : decode cX8_worst 56 = .ok (.iload_n 1, 1) := by decide +kernel
theorem dX8_worst_57 : decode cX8_worst 57 = .ok (.invokevirtual 209, 3) := by decide +kernel
theorem dX8_worst_60 : decode cX8_worst 60 = .ok (.imul, 1) := by decide +kernel
theorem dX8_worst_61 : decode cX8_worst 61 = .ok (.if_icmp .ne 12, 3) := by decide +kernel
theorem dX8_worst_64 : decode cX8_worst 64 = .ok (.aload_n 0, 1) := by decide +kernel
theorem dX8_worst_65 : decode cX8_worst 65 = .ok (.getfield 41, 3) := by decide +kernel
theorem dX8_worst_68 : decode cX8_worst 68 = .ok (.iload_n 3, 1) := by decide +kernel
theorem dX8_worst_69 : decode cX8_worst 69 = .ok (.iaload, 1) := by decide +kernel
theorem dX8_worst_70 : decode cX8_worst 70 = .ok (.goto 4, 3) := by decide +kernel
theorem dX8_worst_73 : decode cX8_worst 73 = .ok (.iload_n 2, 1) := by decide +kernel
theorem dX8_worst_74 : decode cX8_worst 74 = .ok (.istore_n 2, 1) := by decide +kernel
theorem dX8_worst_75 : decode cX8_worst 75 = .ok (.iinc 3 (-1), 3) := by decide +kernel
theorem dX8_worst_78 : decode cX8_worst 78 = .ok (.goto (-47), 3) := by decide +kernel
theorem dX8_worst_81 : decode cX8_worst 81 = .ok (.iload_n 2, 1) := by decide +kernel
theorem dX8_worst_82 : decode cX8_worst 82 = .ok (.ireturn, 1) := by decide +kernel
def f_X8_worst (N : Nat) (x1 : Int32) (M : Mem) : Option (Int32 × Mem) := bd (f_X8_isTurn N x1 M) (fun v1 => if v1 = 0 then (some ((-2 : Int32), M)) else (bd (f_X8_isFree N x1 M) (fun w5 => if w5.1 = 0 then (some ((-3 : Int32), w5.2)) else (nm ((w5.2.1 0 17) - (1 : Int32)) (fun v6 => lp (fun (k31 : (Int32 × Int32) → Option (Int32 × Mem)) (a31 : Int32 × Int32) => if a31.2 < 0 then (some (a31.1, w5.2)) else (ck (inb a31.2 200) (bd (f_X8_length N (w5.2.1 8 a31.2.toNatClampNeg) w5.2) (fun v7 => bd (f_X8_fewer N a31.2 x1 w5.2) (fun v9 => jn (fun (a74 : Int32) => nm (a31.2 + (-1 : Int32)) (fun v11 => k31 (a74, v11))) (fun (k74 : Int32 → Option (Int32 × Mem)) => if (v7 * (w5.2.1 0 19)) = ((w5.2.1 0 18) * v9) then (ck (inb a31.2 200) (k74 (w5.2.1 8 a31.2.toNatClampNeg))) else (k74 a31.1))))))) N ((-1 : Int32), v6))))))
set_option maxRecDepth 100000 in
set_option maxHeartbeats 4000000 in
theorem c_X8_worst {l : Launch} {D : va_G} {ac : Nat → ClassId} {A : Nat → Prop} {ad : Nat → Nat} {rest : va_W} (N : Nat) (x1 : Int32)  (M : Mem) (r0 : Int32) (M0 : Mem) (hf : f_X8_worst N x1 M = some (r0, M0)) : CtI l D ac A tabM ad rest yX8_worst cX8_worst 4 .int 6 [.ref (ad 0), .int x1] M r0 M0 := by
  refine ct_ofI (own := RX8) (by decide +kernel) rfl (Nat.le_of_ble_eq_true rfl) ?_
  intro p e s m args below meth c C
  unfold f_X8_worst at hf
  refine a_L (L' := [(0, .ref (ad 0)), (1, .int x1)]) rfl ?_
  refine a_aload_n (pc := 0) C dX8_worst_0 0 rfl ?_
  refine a_iload_n (pc := 1) C dX8_worst_1 1 rfl ?_
  refine a_callV_Ir (pc := 2) (d' := 1) C dX8_worst_2 ml_X8_239 mc_X8_isTurn mv_X8_isTurn tm_0 rfl [.int x1] rfl (Nat.le_of_ble_eq_true rfl) (Nat.le_of_ble_eq_true rfl) rfl (Nat.le_of_ble_eq_true rfl) (fun r h => c_X8_isTurn N x1  _  r h) hf (fun v1 hf => ?_)
  refine a_if_ne (pc := 5) 11 C dX8_worst_5 (by decide) hf (fun hf => ?_) (fun hf => ?_)
  · refine a_aload_n (pc := 11) C dX8_worst_11 0 rfl ?_
    refine a_iload_n (pc := 12) C dX8_worst_12 1 rfl ?_
    refine a_callV_I (pc := 13) (d' := 5) C dX8_worst_13 ml_X8_242 mc_X8_isFree mv_X8_isFree tm_0 rfl [.int x1] rfl (Nat.le_of_ble_eq_true rfl) (Nat.le_of_ble_eq_true rfl) rfl (Nat.le_of_ble_eq_true rfl) (fun r M' h => c_X8_isFree N x1  _  r M' h) hf (fun v3 M4 hf => ?_)
    refine a_if_ne (pc := 16) 22 C dX8_worst_16 (by decide) hf (fun hf => ?_) (fun hf => ?_)
    · refine a_iconst (pc := 22) (v := (-1)) C dX8_worst_22 (by decide) ?_
      refine a_istore_n (pc := 23) [(2, .int (-1 : Int32)), (0, .ref (ad 0)), (1, .int x1)] C dX8_worst_23 (by decide) rfl ?_
      refine a_aload_n (pc := 24) C dX8_worst_24 1 rfl ?_
      refine a_getI (pc := 25) C dX8_worst_25 fl_X8_197 tm_0 rfl ?_
      refine a_iconst (pc := 28) (v := 1) C dX8_worst_28 (by decide) ?_
      refine a_isub (pc := 29) C dX8_worst_29 ?_
      refine a_nmi hf (fun v6 hf => ?_)
      refine a_istore_n (pc := 30) [(3, .int v6), (2, .int (-1 : Int32)), (0, .ref (ad 0)), (1, .int x1)] C dX8_worst_30 (by decide) rfl ?_
      refine a_sub [2, 3, 1, 0] rfl ?_
      refine a_lp 31 (fun a31 : Int32 × Int32 => [(0, .ref (ad 0)), (1, .int x1), (2, .int a31.1), (3, .int a31.2)]) (fun a31 : Int32 × Int32 => []) (fun a31 : Int32 × Int32 => M4) (fun k31 a31 hk31 hf => ?_) N ((-1 : Int32), v6) hf
      refine a_iload_n (pc := 31) C dX8_worst_31 3 rfl ?_
      refine a_if_lt (pc := 32) 81 C dX8_worst_32 (by decide) hf (fun hf => ?_) (fun hf => ?_)
      · refine a_iload_n (pc := 81) C dX8_worst_81 2 rfl ?_
        exact a_iret (pc := 82) C dX8_worst_82 (so_1 hf) (so_2 hf)
      · refine a_aload_n (pc := 35) C dX8_worst_35 0 rfl ?_
        refine a_aload_n (pc := 36) C dX8_worst_36 0 rfl ?_
        refine a_getR (pc := 37) C dX8_worst_37 fl_X8_41 tm_0 rfl ?_
        refine a_iload_n (pc := 40) C dX8_worst_40 3 rfl ?_
        refine a_iald (pc := 41) C dX8_worst_41 tm_8 hf (fun hf => ?_)
        refine a_callV_Ir (pc := 42) (d' := 3) C dX8_worst_42 ml_X8_212 mc_X8_length mv_X8_length tm_0 rfl [.int (M4.1 8 a31.2.toNatClampNeg)] rfl (Nat.le_of_ble_eq_true rfl) (Nat.le_of_ble_eq_true rfl) rfl (Nat.le_of_ble_eq_true rfl) (fun r h => c_X8_length N (M4.1 8 a31.2.toNatClampNeg)  _  r h) hf (fun v7 hf => ?_)
        refine a_aload_n (pc := 45) C dX8_worst_45 0 rfl ?_
        refine a_getI (pc := 46) C dX8_worst_46 fl_X8_206 tm_0 rfl ?_
        refine a_imul (pc := 49) C dX8_worst_49 ?_
        refine a_aload_n (pc := 50) C dX8_worst_50 0 rfl ?_
        refine a_getI (pc := 51) C dX8_worst_51 fl_X8_203 tm_0 rfl ?_
        refine a_aload_n (pc := 54) C dX8_worst_54 0 rfl ?_
        refine a_iload_n (pc := 55) C dX8_worst_55 3 rfl ?_
        refine a_iload_n (pc := 56) C dX8_worst_56 1 rfl ?_
        refine a_callV_Ir (pc := 57) (d' := 2) C dX8_worst_57 ml_X8_209 mc_X8_fewer mv_X8_fewer tm_0 rfl [.int a31.2, .int x1] rfl (Nat.le_of_ble_eq_true rfl) (Nat.le_of_ble_eq_true rfl) rfl (Nat.le_of_ble_eq_true rfl) (fun r h => c_X8_fewer N a31.2 x1  _  r h) hf (fun v9 hf => ?_)
        refine a_imul (pc := 60) C dX8_worst_60 ?_
        refine a_jn 74 (fun a74 : Int32 => [(0, .ref (ad 0)), (1, .int x1), (3, .int a31.2)]) (fun a74 : Int32 => [.int a74]) (fun a74 : Int32 => M4) hf (fun a74 hf => ?_) (fun k74 hk74 hf => ?_)
        · refine a_istore_n (pc := 74) [(2, .int a74), (0, .ref (ad 0)), (1, .int x1), (3, .int a31.2)] C dX8_worst_74 (by decide) rfl ?_
          refine a_iinc (pc := 75) (v := (-1)) (fun v11 => [(3, .int v11), (2, .int a74), (0, .ref (ad 0)), (1, .int x1)]) C dX8_worst_75 3 rfl (by decide) (by decide) (fun _ => rfl) hf (fun v11 hf => ?_)
          refine a_goto (pc := 78) 31 C dX8_worst_78 (by decide) ?_
          exact a_sub [2, 3, 1, 0] rfl (hk31 (a74, v11) hf)
        · refine a_icmp_ne (pc := 61) 73 C dX8_worst_61 (by decide) hf (fun hf => ?_) (fun hf => ?_)
          · refine a_iload_n (pc := 73) C dX8_worst_73 2 rfl ?_
            exact a_sub [0, 1, 3] rfl (hk74 a31.1 hf)
          · refine a_aload_n (pc := 64) C dX8_worst_64 0 rfl ?_
            refine a_getR (pc := 65) C dX8_worst_65 fl_X8_41 tm_0 rfl ?_
            refine a_iload_n (pc := 68) C dX8_worst_68 3 rfl ?_
            refine a_iald (pc := 69) C dX8_worst_69 tm_8 hf (fun hf => ?_)
            refine a_goto (pc := 70) 74 C dX8_worst_70 (by decide) ?_
            exact a_sub [0, 1, 3] rfl (hk74 (M4.1 8 a31.2.toNatClampNeg) hf)
    · refine a_bipush (pc := 19) (v := (-3)) C dX8_worst_19 (by decide) ?_
      exact a_iret (pc := 21) C dX8_worst_21 (so_1 hf) (so_2 hf)
  · refine a_bipush (pc := 8) (v := (-2)) C dX8_worst_8 (by decide) ?_
    exact a_iret (pc := 10) C dX8_worst_10 (so_1 hf) (so_2 hf)
theorem dX8_turns_0 : decode cX8_turns 0 = .ok (.iload_n 1, 1) := by decide +kernel
theorem dX8_turns_1 : decode cX8_turns 1 = .ok (.i2l, 1) := by decide +kernel
theorem dX8_turns_2 : decode cX8_turns 2 = .ok (.lconst 0, 1) := by decide +kernel
theorem dX8_turns_3 : decode cX8_turns 3 = .ok (.ldc2_w 237, 3) := by decide +kernel
theorem dX8_turns_6 : decode cX8_turns 6 = .ok (.invokestatic 98, 3) := by decide +kernel
theorem dX8_turns_9 : decode cX8_turns 9 = .ok (.ifCond .ne 6, 3) := by decide +kernel
theorem dX8_turns_12 : decode cX8_turns 12 = .ok (.bipush (-2), 2) := by decide +kernel
theorem dX8_turns_14 : decode cX8_turns 14 = .ok (.ireturn, 1) := by decide +kernel
theorem dX8_turns_15 : decode cX8_turns 15 = .ok (.iload_n 1, 1) := by decide +kernel
theorem dX8_turns_16 : decode cX8_turns 16 = .ok (.ifCond .le 12, 3) := by decide +kernel
theorem dX8_turns_19 : decode cX8_turns 19 = .ok (.aload_n 0, 1) := by decide +kernel
theorem dX8_turns_20 : decode cX8_turns 20 = .ok (.getfield 102, 3) := by decide +kernel
theorem dX8_turns_23 : decode cX8_turns 23 = .ok (.ifCond .ne 5, 3) := by decide +kernel
theorem dX8_turns_26 : decode cX8_turns 26 = .ok (.iconst (-1), 1) := by decide +kernel
theorem dX8_turns_27 : decode cX8_turns 27 = .ok (.ireturn, 1) := by decide +kernel
theorem dX8_turns_28 : decode cX8_turns 28 = .ok (.aload_n 0, 1) := by decide +kernel
theorem dX8_turns_29 : decode cX8_turns 29 = .ok (.invokevirtual 227, 3) := by decide +kernel
theorem dX8_turns_32 : decode cX8_turns 32 = .ok (.iconst 1, 1) := by decide +kernel
theorem dX8_turns_33 : decode cX8_turns 33 = .ok (.aload_n 0, 1) := by decide +kernel
theorem dX8_turns_34 : decode cX8_turns 34 = .ok (.getfield 102, 3) := by decide +kernel
theorem dX8_turns_37 : decode cX8_turns 37 = .ok (.ishl, 1) := by decide +kernel
theorem dX8_turns_38 : decode cX8_turns 38 = .ok (.iconst 1, 1) := by decide +kernel
theorem dX8_turns_39 : decode cX8_turns 39 = .ok (.isub, 1) := by decide +kernel
theorem dX8_turns_40 : decode cX8_turns 40 = .ok (.istore_n 2, 1) := by decide +kernel
theorem dX8_turns_41 : decode cX8_turns 41 = .ok (.aload_n 0, 1) := by decide +kernel
theorem dX8_turns_42 : decode cX8_turns 42 = .ok (.iload_n 2, 1) := by decide +kernel
theorem dX8_turns_43 : decode cX8_turns 43 = .ok (.invokevirtual 230, 3) := by decide +kernel
theorem dX8_turns_46 : decode cX8_turns 46 = .ok (.iconst 0, 1) := by decide +kernel
theorem dX8_turns_47 : decode cX8_turns 47 = .ok (.istore_n 3, 1) := by decide +kernel
theorem dX8_turns_48 : decode cX8_turns 48 = .ok (.iconst 0, 1) := by decide +kernel
theorem dX8_turns_49 : decode cX8_turns 49 = .ok (.istore 4, 2) := by decide +kernel
theorem dX8_turns_51 : decode cX8_turns 51 = .ok (.iconst (-1), 1) := by decide +kernel
theorem dX8_turns_52 : decode cX8_turns 52 = .ok (.istore 5, 2) := by decide +kernel
theorem dX8_turns_54 : decode cX8_turns 54 = .ok (.iconst 0, 1) := by decide +kernel
theorem dX8_turns_55 : decode cX8_turns 55 = .ok (.istore 6, 2) := by decide +kernel
theorem dX8_turns_57 : decode cX8_turns 57 = .ok (.iload 6, 2) := by decide +kernel
theorem dX8_turns_59 : decode cX8_turns 59 = .ok (.iload_n 2, 1) := by decide +kernel
theorem dX8_turns_60 : decode cX8_turns 60 = .ok (.if_icmp .gt 67, 3) := by decide +kernel
theorem dX8_turns_63 : decode cX8_turns 63 = .ok (.aload_n 0, 1) := by decide +kernel
theorem dX8_turns_64 : decode cX8_turns 64 = .ok (.iload 6, 2) := by decide +kernel
theorem dX8_turns_66 : decode cX8_turns 66 = .ok (.iload_n 2, 1) := by decide +kernel
theorem dX8_turns_67 : decode cX8_turns 67 = .ok (.invokevirtual 221, 3) := by decide +kernel
theorem dX8_turns_70 : decode cX8_turns 70 = .ok (.ifCond .ne 6, 3) := by decide +kernel
theorem dX8_turns_73 : decode cX8_turns 73 = .ok (.goto 48, 3) := by decide +kernel
theorem dX8_turns_76 : decode cX8_turns 76 = .ok (.iinc 3 1, 3) := by decide +kernel
theorem dX8_turns_79 : decode cX8_turns 79 = .ok (.aload_n 0, 1) := by decide +kernel
theorem dX8_turns_80 : decode cX8_turns 80 = .ok (.getfield 203, 3) := by decide +kernel
theorem dX8_turns_83 : decode cX8_turns 83 = .ok (.aload_n 0, 1) := by decide +kernel
theorem dX8_turns_84 : decode cX8_turns 84 = .ok (.getfield 218, 3) := by decide +kernel
theorem dX8_turns_87 : decode cX8_turns 87 = .ok (.imul, 1) := by decide +kernel
theorem dX8_turns_88 : decode cX8_turns 88 = .ok (.aload_n 0, 1) := by decide +kernel
theorem dX8_turns_89 : decode cX8_turns 89 = .ok (.getfield 215, 3) := by decide +kernel
theorem dX8_turns_92 : decode cX8_turns 92 = .ok (.aload_n 0, 1) := by decide +kernel
theorem dX8_turns_93 : decode cX8_turns 93 = .ok (.getfield 206, 3) := by decide +kernel
theorem dX8_turns_96 : decode cX8_turns 96 = .ok (.imul, 1) := by decide +kernel
theorem dX8_turns_97 : decode cX8_turns 97 = .ok (.if_icmp .eq 6, 3) := by decide +kernel
theorem dX8_turns_100 : decode cX8_turns 100 = .ok (.goto 21, 3) := by decide +kernel
theorem dX8_turns_103 : decode cX8_turns 103 = .ok (.iinc 4 1, 3) := by decide +kernel
theorem dX8_turns_106 : decode cX8_turns 106 = .ok (.iload 5, 2) := by decide +kernel
theorem dX8_turns_108 : decode cX8_turns 108 = .ok (.iconst (-1), 1) := by decide +kernel
theorem dX8_turns_109 : decode cX8_turns 109 = .ok (.if_icmp .ne 8, 3) := by decide +kernel
theorem dX8_turns_112 : decode cX8_turns 112 = .ok (.iload 6, 2) := by decide +kernel
theorem dX8_turns_114 : decode cX8_turns 114 = .ok (.goto 5, 3) := by decide +kernel
theorem dX8_turns_117 : decode cX8_turns 117 = .ok (.iload 5, 2) := by decide +kernel
theorem dX8_turns_119 : decode cX8_turns 119 = .ok (.istore 5, 2) := by decide +kernel
theorem dX8_turns_121 : decode cX8_turns 121 = .ok (.iinc 6 1, 3) := by decide +kernel
theorem dX8_turns_124 : decode cX8_turns 124 = .ok (.goto (-67), 3) := by decide +kernel
theorem dX8_turns_127 : decode cX8_turns 127 = .ok (.iload_n 1, 1) := by decide +kernel
theorem dX8_turns_128 : decode cX8_turns 128 = .ok (.ifCond .ne 7, 3) := by decide +kernel
theorem dX8_turns_131 : decode cX8_turns 131 = .ok (.iload_n 3, 1) := by decide +kernel
theorem dX8_turns_132 : decode cX8_turns 132 = .ok (.goto 15, 3) := by decide +kernel
theorem dX8_turns_135 : decode cX8_turns 135 = .ok (.iload_n 1, 1) := by decide +kernel
theorem dX8_turns_136 : decode cX8_turns 136 = .ok (.iconst 1, 1) := by decide +kernel
theorem dX8_turns_137 : decode cX8_turns 137 = .ok (.if_icmp .ne 8, 3) := by decide +kernel
theorem dX8_turns_140 : decode cX8_turns 140 = .ok (.iload 4, 2) := by decide +kernel
theorem dX8_turns_142 : decode cX8_turns 142 = .ok (.goto 5, 3) := by decide +kernel
theorem dX8_turns_145 : decode cX8_turns 145 = .ok (.iload 5, 2) := by decide +kernel
theorem dX8_turns_147 : decode cX8_turns 147 = .ok (.ireturn, 1) := by decide +kernel
def f_X8_turns (N : Nat) (x1 : Int32) (M : Mem) : Option (Int32 × Mem) := bd (f_X8_in N x1.toInt64 (0 : Int64) (2 : Int64) M) (fun v1 => if v1 = 0 then (some ((-2 : Int32), M)) else (jn (fun (a28 : Unit) => bd (f_X8_laysRings N  M) (fun M4 => nm (((1 : Int32) <<< ((M4.1 0 1) &&& 31)) - (1 : Int32)) (fun v5 => bd (f_X8_ratios N v5 M4) (fun M7 => lp (fun (k57 : (Int32 × Int32 × Int32 × Int32 × Mem) → Option (Int32 × Mem)) (a57 : Int32 × Int32 × Int32 × Int32 × Mem) => if v5 < a57.2.2.2.1 then (if x1 = 0 then (some (a57.1, a57.2.2.2.2)) else (if x1 = (1 : Int32) then (some (a57.2.1, a57.2.2.2.2)) else (some (a57.2.2.1, a57.2.2.2.2)))) else (bd (f_X8_rates N a57.2.2.2.1 v5 a57.2.2.2.2) (fun w10 => jn (fun (a121 : Int32 × Int32 × Int32) => nm (a57.2.2.2.1 + (1 : Int32)) (fun v11 => k57 (a121.1, a121.2.1, a121.2.2, v11, w10.2))) (fun (k121 : (Int32 × Int32 × Int32) → Option (Int32 × Mem)) => if w10.1 = 0 then (k121 (a57.1, a57.2.1, a57.2.2.1)) else (nm (a57.1 + (1 : Int32)) (fun v12 => if ((w10.2.1 0 18) * (w10.2.1 0 21)) = ((w10.2.1 0 20) * (w10.2.1 0 19)) then (nm (a57.2.1 + (1 : Int32)) (fun v13 => jn (fun (a119 : Int32) => k121 (v12, v13, a119)) (fun (k119 : Int32 → Option (Int32 × Mem)) => if a57.2.2.1 = (-1 : Int32) then (k119 a57.2.2.2.1) else (k119 a57.2.2.1)))) else (k121 (v12, a57.2.1, a57.2.2.1)))))))) N ((0 : Int32), (0 : Int32), (-1 : Int32), (0 : Int32), M7))))) (fun (k28 : Unit → Option (Int32 × Mem)) => if x1 ≤ 0 then (k28 ()) else (if (M.1 0 1) = 0 then (some ((-1 : Int32), M)) else (k28 ())))))
set_option maxRecDepth 100000 in
set_option maxHeartbeats 4000000 in
theorem c_X8_turns {l : Launch} {D : va_G} {ac : Nat → ClassId} {A : Nat → Prop} {ad : Nat → Nat} {rest : va_W} (N : Nat) (x1 : Int32)  (M : Mem) (r0 : Int32) (M0 : Mem) (hf : f_X8_turns N x1 M = some (r0, M0)) : CtI l D ac A tabM ad rest yX8_turns cX8_turns 7 .int 6 [.ref (ad 0), .int x1] M r0 M0 := by
  refine ct_ofI (own := RX8) (by decide +kernel) rfl (Nat.le_of_ble_eq_true rfl) ?_
  intro p e s m args below meth c C
  unfold f_X8_turns at hf
  refine a_L (L' := [(0, .ref (ad 0)), (1, .int x1)]) rfl ?_
  refine a_iload_n (pc := 0) C dX8_turns_0 1 rfl ?_
  refine a_i2l (pc := 1) C dX8_turns_1 ?_
  refine a_lconst (pc := 2) (v := 0) C dX8_turns_2 (by decide) ?_
  refine a_ldc2 (pc := 3) C dX8_turns_3 cj_X8_237 ?_
  refine a_callS_Ir (pc := 6) (d' := 1) C dX8_turns_6 ml_X8_98 mc_X8_in ms_X8_in [.long x1.toInt64, .long (0 : Int64), .long (2 : Int64)] rfl (Nat.le_of_ble_eq_true rfl) (Nat.le_of_ble_eq_true rfl) rfl (Nat.le_of_ble_eq_true rfl) (fun r h => c_X8_in N x1.toInt64 (0 : Int64) (2 : Int64)  _  r h) hf (fun v1 hf => ?_)
  refine a_if_ne (pc := 9) 15 C dX8_turns_9 (by decide) hf (fun hf => ?_) (fun hf => ?_)
  · refine a_iload_n (pc := 15) C dX8_turns_15 1 rfl ?_
    refine a_jn 28 (fun a28 : Unit => [(0, .ref (ad 0)), (1, .int x1)]) (fun a28 : Unit => []) (fun a28 : Unit => M) hf (fun a28 hf => ?_) (fun k28 hk28 hf => ?_)
    · refine a_aload_n (pc := 28) C dX8_turns_28 0 rfl ?_
      refine a_callV_V (pc := 29) (d' := 3) C dX8_turns_29 ml_X8_227 mc_X8_laysRings mv_X8_laysRings tm_0 rfl [] rfl (Nat.le_of_ble_eq_true rfl) (Nat.le_of_ble_eq_true rfl) rfl (Nat.le_of_ble_eq_true rfl) (fun M' h => c_X8_laysRings N   _  M' h) hf (fun M4 hf => ?_)
      refine a_iconst (pc := 32) (v := 1) C dX8_turns_32 (by decide) ?_
      refine a_aload_n (pc := 33) C dX8_turns_33 0 rfl ?_
      refine a_getI (pc := 34) C dX8_turns_34 fl_X8_102 tm_0 rfl ?_
      refine a_ishl (pc := 37) C dX8_turns_37 ?_
      refine a_iconst (pc := 38) (v := 1) C dX8_turns_38 (by decide) ?_
      refine a_isub (pc := 39) C dX8_turns_39 ?_
      refine a_nmi hf (fun v5 hf => ?_)
      refine a_istore_n (pc := 40) [(2, .int v5), (0, .ref (ad 0)), (1, .int x1)] C dX8_turns_40 (by decide) rfl ?_
      refine a_aload_n (pc := 41) C dX8_turns_41 1 rfl ?_
      refine a_iload_n (pc := 42) C dX8_turns_42 0 rfl ?_
      refine a_callV_V (pc := 43) (d' := 5) C dX8_turns_43 ml_X8_230 mc_X8_ratios mv_X8_ratios tm_0 rfl [.int v5] rfl (Nat.le_of_ble_eq_true rfl) (Nat.le_of_ble_eq_true rfl) rfl (Nat.le_of_ble_eq_true rfl) (fun M' h => c_X8_ratios N v5  _  M' h) hf (fun M7 hf => ?_)
      refine a_iconst (pc := 46) (v := 0) C dX8_turns_46 (by decide) ?_
      refine a_istore_n (pc := 47) [(3, .int (0 : Int32)), (2, .int v5), (0, .ref (ad 0)), (1, .int x1)] C dX8_turns_47 (by decide) rfl ?_
      refine a_iconst (pc := 48) (v := 0) C dX8_turns_48 (by decide) ?_
      refine a_istore (pc := 49) [(4, .int (0 : Int32)), (3, .int (0 : Int32)), (2, .int v5), (0, .ref (ad 0)), (1, .int x1)] C dX8_turns_49 (by decide) rfl ?_
      refine a_iconst (pc := 51) (v := (-1)) C dX8_turns_51 (by decide) ?_
      refine a_istore (pc := 52) [(5, .int (-1 : Int32)), (4, .int (0 : Int32)), (3, .int (0 : Int32)), (2, .int v5), (0, .ref (ad 0)), (1, .int x1)] C dX8_turns_52 (by decide) rfl ?_
      refine a_iconst (pc := 54) (v := 0) C dX8_turns_54 (by decide) ?_
      refine a_istore (pc := 55) [(6, .int (0 : Int32)), (5, .int (-1 : Int32)), (4, .int (0 : Int32)), (3, .int (0 : Int32)), (2, .int v5), (0, .ref (ad 0)), (1, .int x1)] C dX8_turns_55 (by decide) rfl ?_
      refine a_sub [5, 6, 4, 3, 2, 1, 0] rfl ?_
      refine a_lp 57 (fun a57 : Int32 × Int32 × Int32 × Int32 × Mem => [(0, .ref (ad 0)), (1, .int x1), (2, .int v5), (3, .int a57.1), (4, .int a57.2.1), (5, .int a57.2.2.1), (6, .int a57.2.2.2.1)]) (fun a57 : Int32 × Int32 × Int32 × Int32 × Mem => []) (fun a57 : Int32 × Int32 × Int32 × Int32 × Mem => a57.2.2.2.2) (fun k57 a57 hk57 hf => ?_) N ((0 : Int32), (0 : Int32), (-1 : Int32), (0 : Int32), M7) hf
      refine a_iload (pc := 57) C dX8_turns_57 6 rfl ?_
      refine a_iload_n (pc := 59) C dX8_turns_59 2 rfl ?_
      refine a_icmp_gt (pc := 60) 127 C dX8_turns_60 (by decide) hf (fun hf => ?_) (fun hf => ?_)
      · refine a_iload_n (pc := 127) C dX8_turns_127 1 rfl ?_
        refine a_if_ne (pc := 128) 135 C dX8_turns_128 (by decide) hf (fun hf => ?_) (fun hf => ?_)
        · refine a_iload_n (pc := 135) C dX8_turns_135 1 rfl ?_
          refine a_iconst (pc := 136) (v := 1) C dX8_turns_136 (by decide) ?_
          refine a_icmp_ne (pc := 137) 145 C dX8_turns_137 (by decide) hf (fun hf => ?_) (fun hf => ?_)
          · refine a_iload (pc := 145) C dX8_turns_145 5 rfl ?_
            exact a_iret (pc := 147) C dX8_turns_147 (so_1 hf) (so_2 hf)
          · refine a_iload (pc := 140) C dX8_turns_140 4 rfl ?_
            refine a_goto (pc := 142) 147 C dX8_turns_142 (by decide) ?_
            exact a_iret (pc := 147) C dX8_turns_147 (so_1 hf) (so_2 hf)
        · refine a_iload_n (pc := 131) C dX8_turns_131 3 rfl ?_
          refine a_goto (pc := 132) 147 C dX8_turns_132 (by decide) ?_
          exact a_iret (pc := 147) C dX8_turns_147 (so_1 hf) (so_2 hf)
      · refine a_aload_n (pc := 63) C dX8_turns_63 0 rfl ?_
        refine a_iload (pc := 64) C dX8_turns_64 6 rfl ?_
        refine a_iload_n (pc := 66) C dX8_turns_66 2 rfl ?_
        refine a_callV_I (pc := 67) (d' := 4) C dX8_turns_67 ml_X8_221 mc_X8_rates mv_X8_rates tm_0 rfl [.int a57.2.2.2.1, .int v5] rfl (Nat.le_of_ble_eq_true rfl) (Nat.le_of_ble_eq_true rfl) rfl (Nat.le_of_ble_eq_true rfl) (fun r M' h => c_X8_rates N a57.2.2.2.1 v5  _  r M' h) hf (fun v8 M9 hf => ?_)
        refine a_jn 121 (fun a121 : Int32 × Int32 × Int32 => [(0, .ref (ad 0)), (1, .int x1), (2, .int v5), (3, .int a121.1), (4, .int a121.2.1), (5, .int a121.2.2), (6, .int a57.2.2.2.1)]) (fun a121 : Int32 × Int32 × Int32 => []) (fun a121 : Int32 × Int32 × Int32 => M9) hf (fun a121 hf => ?_) (fun k121 hk121 hf => ?_)
        · refine a_iinc (pc := 121) (v := 1) (fun v11 => [(6, .int v11), (0, .ref (ad 0)), (1, .int x1), (2, .int v5), (3, .int a121.1), (4, .int a121.2.1), (5, .int a121.2.2)]) C dX8_turns_121 6 rfl (by decide) (by decide) (fun _ => rfl) hf (fun v11 hf => ?_)
          refine a_goto (pc := 124) 57 C dX8_turns_124 (by decide) ?_
          exact a_sub [1, 2, 3, 4, 5, 6, 0] rfl (hk57 (a121.1, a121.2.1, a121.2.2, v11, M9) hf)
        · refine a_if_ne (pc := 70) 76 C dX8_turns_70 (by decide) hf (fun hf => ?_) (fun hf => ?_)
          · refine a_iinc (pc := 76) (v := 1) (fun v12 => [(3, .int v12), (0, .ref (ad 0)), (1, .int x1), (2, .int v5), (4, .int a57.2.1), (5, .int a57.2.2.1), (6, .int a57.2.2.2.1)]) C dX8_turns_76 3 rfl (by decide) (by decide) (fun _ => rfl) hf (fun v12 hf => ?_)
            refine a_aload_n (pc := 79) C dX8_turns_79 1 rfl ?_
            refine a_getI (pc := 80) C dX8_turns_80 fl_X8_203 tm_0 rfl ?_
            refine a_aload_n (pc := 83) C dX8_turns_83 1 rfl ?_
            refine a_getI (pc := 84) C dX8_turns_84 fl_X8_218 tm_0 rfl ?_
            refine a_imul (pc := 87) C dX8_turns_87 ?_
            refine a_aload_n (pc := 88) C dX8_turns_88 1 rfl ?_
            refine a_getI (pc := 89) C dX8_turns_89 fl_X8_215 tm_0 rfl ?_
            refine a_aload_n (pc := 92) C dX8_turns_92 1 rfl ?_
            refine a_getI (pc := 93) C dX8_turns_93 fl_X8_206 tm_0 rfl ?_
            refine a_imul (pc := 96) C dX8_turns_96 ?_
            refine a_icmp_eq (pc := 97) 103 C dX8_turns_97 (by decide) hf (fun hf => ?_) (fun hf => ?_)
            · refine a_iinc (pc := 103) (v := 1) (fun v13 => [(4, .int v13), (3, .int v12), (0, .ref (ad 0)), (1, .int x1), (2, .int v5), (5, .int a57.2.2.1), (6, .int a57.2.2.2.1)]) C dX8_turns_103 4 rfl (by decide) (by decide) (fun _ => rfl) hf (fun v13 hf => ?_)
              refine a_iload (pc := 106) C dX8_turns_106 5 rfl ?_
              refine a_iconst (pc := 108) (v := (-1)) C dX8_turns_108 (by decide) ?_
              refine a_jn 119 (fun a119 : Int32 => [(0, .ref (ad 0)), (1, .int x1), (2, .int v5), (3, .int v12), (4, .int v13), (6, .int a57.2.2.2.1)]) (fun a119 : Int32 => [.int a119]) (fun a119 : Int32 => M9) hf (fun a119 hf => ?_) (fun k119 hk119 hf => ?_)
              · refine a_istore (pc := 119) [(5, .int a119), (0, .ref (ad 0)), (1, .int x1), (2, .int v5), (3, .int v12), (4, .int v13), (6, .int a57.2.2.2.1)] C dX8_turns_119 (by decide) rfl ?_
                exact a_sub [1, 2, 3, 4, 5, 0, 6] rfl (hk121 (v12, v13, a119) hf)
              · refine a_icmp_ne (pc := 109) 117 C dX8_turns_109 (by decide) hf (fun hf => ?_) (fun hf => ?_)
                · refine a_iload (pc := 117) C dX8_turns_117 5 rfl ?_
                  exact a_sub [2, 3, 4, 1, 0, 6] rfl (hk119 a57.2.2.1 hf)
                · refine a_iload (pc := 112) C dX8_turns_112 6 rfl ?_
                  refine a_goto (pc := 114) 119 C dX8_turns_114 (by decide) ?_
                  exact a_sub [2, 3, 4, 1, 0, 6] rfl (hk119 a57.2.2.2.1 hf)
            · refine a_goto (pc := 100) 121 C dX8_turns_100 (by decide) ?_
              exact a_sub [1, 2, 3, 0, 4, 5, 6] rfl (hk121 (v12, a57.2.1, a57.2.2.1) hf)
          · refine a_goto (pc := 73) 121 C dX8_turns_73 (by decide) ?_
            exact a_sub [0, 1, 2, 3, 4, 5, 6] rfl (hk121 (a57.1, a57.2.1, a57.2.2.1) hf)
    · refine a_if_le (pc := 16) 28 C dX8_turns_16 (by decide) hf (fun hf => ?_) (fun hf => ?_)
      · exact a_sub [0, 1] rfl (hk28 () hf)
      · refine a_aload_n (pc := 19) C dX8_turns_19 0 rfl ?_
        refine a_getI (pc := 20) C dX8_turns_20 fl_X8_102 tm_0 rfl ?_
        refine a_if_ne (pc := 23) 28 C dX8_turns_23 (by decide) hf (fun hf => ?_) (fun hf => ?_)
        · exact a_sub [0, 1] rfl (hk28 () hf)
        · refine a_iconst (pc := 26) (v := (-1)) C dX8_turns_26 (by decide) ?_
          exact a_iret (pc := 27) C dX8_turns_27 (so_1 hf) (so_2 hf)
  · refine a_bipush (pc := 12) (v := (-2)) C dX8_turns_12 (by decide) ?_
    exact a_iret (pc := 14) C dX8_turns_14 (so_1 hf) (so_2 hf)
