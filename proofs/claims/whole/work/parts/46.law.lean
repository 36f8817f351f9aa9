theorem dL_law_1119 : decode cL_law 1119 = .ok (.aload_n 1, 1) := by decide +kernel
theorem dL_law_1120 : decode cL_law 1120 = .ok (.aload_n 0, 1) := by decide +kernel
theorem dL_law_1121 : decode cL_law 1121 = .ok (.iload_n 3, 1) := by decide +kernel
theorem dL_law_1122 : decode cL_law 1122 = .ok (.iconst 1, 1) := by decide +kernel
theorem dL_law_1123 : decode cL_law 1123 = .ok (.iadd, 1) := by decide +kernel
theorem dL_law_1124 : decode cL_law 1124 = .ok (.iaload, 1) := by decide +kernel
theorem dL_law_1125 : decode cL_law 1125 = .ok (.aload_n 0, 1) := by decide +kernel
theorem dL_law_1126 : decode cL_law 1126 = .ok (.iload_n 3, 1) := by decide +kernel
theorem dL_law_1127 : decode cL_law 1127 = .ok (.iconst 2, 1) := by decide +kernel
theorem dL_law_1128 : decode cL_law 1128 = .ok (.iadd, 1) := by decide +kernel
theorem dL_law_1129 : decode cL_law 1129 = .ok (.iaload, 1) := by decide +kernel
theorem dL_law_1130 : decode cL_law 1130 = .ok (.i2l, 1) := by decide +kernel
theorem dL_law_1131 : decode cL_law 1131 = .ok (.bipush 32, 2) := by decide +kernel
theorem dL_law_1133 : decode cL_law 1133 = .ok (.lshl, 1) := by decide +kernel
theorem dL_law_1134 : decode cL_law 1134 = .ok (.aload_n 0, 1) := by decide +kernel
theorem dL_law_1135 : decode cL_law 1135 = .ok (.iload_n 3, 1) := by decide +kernel
theorem dL_law_1136 : decode cL_law 1136 = .ok (.iconst 3, 1) := by decide +kernel
theorem dL_law_1137 : decode cL_law 1137 = .ok (.iadd, 1) := by decide +kernel
theorem dL_law_1138 : decode cL_law 1138 = .ok (.iaload, 1) := by decide +kernel
theorem dL_law_1139 : decode cL_law 1139 = .ok (.i2l, 1) := by decide +kernel
theorem dL_law_1140 : decode cL_law 1140 = .ok (.ldc2_w 37, 3) := by decide +kernel
theorem dL_law_1143 : decode cL_law 1143 = .ok (.land, 1) := by decide +kernel
theorem dL_law_1144 : decode cL_law 1144 = .ok (.lor, 1) := by decide +kernel
theorem dL_law_1145 : decode cL_law 1145 = .ok (.aload_n 0, 1) := by decide +kernel
theorem dL_law_1146 : decode cL_law 1146 = .ok (.iload_n 3, 1) := by decide +kernel
theorem dL_law_1147 : decode cL_law 1147 = .ok (.iconst 4, 1) := by decide +kernel
theorem dL_law_1148 : decode cL_law 1148 = .ok (.iadd, 1) := by decide +kernel
theorem dL_law_1149 : decode cL_law 1149 = .ok (.iaload, 1) := by decide +kernel
theorem dL_law_1150 : decode cL_law 1150 = .ok (.i2l, 1) := by decide +kernel
theorem dL_law_1151 : decode cL_law 1151 = .ok (.bipush 32, 2) := by decide +kernel
theorem dL_law_1153 : decode cL_law 1153 = .ok (.lshl, 1) := by decide +kernel
theorem dL_law_1154 : decode cL_law 1154 = .ok (.aload_n 0, 1) := by decide +kernel
theorem dL_law_1155 : decode cL_law 1155 = .ok (.iload_n 3, 1) := by decide +kernel
theorem dL_law_1156 : decode cL_law 1156 = .ok (.iconst 5, 1) := by decide +kernel
theorem dL_law_1157 : decode cL_law 1157 = .ok (.iadd, 1) := by decide +kernel
theorem dL_law_1158 : decode cL_law 1158 = .ok (.iaload, 1) := by decide +kernel
theorem dL_law_1159 : decode cL_law 1159 = .ok (.i2l, 1) := by decide +kernel
theorem dL_law_1160 : decode cL_law 1160 = .ok (.ldc2_w 37, 3) := by decide +kernel
theorem dL_law_1163 : decode cL_law 1163 = .ok (.land, 1) := by decide +kernel
theorem dL_law_1164 : decode cL_law 1164 = .ok (.lor, 1) := by decide +kernel
theorem dL_law_1165 : decode cL_law 1165 = .ok (.invokevirtual 126, 3) := by decide +kernel
theorem dL_law_1168 : decode cL_law 1168 = .ok (.aload_n 2, 1) := by decide +kernel
theorem dL_law_1169 : decode cL_law 1169 = .ok (.aload_n 0, 1) := by decide +kernel
theorem dL_law_1170 : decode cL_law 1170 = .ok (.iload_n 3, 1) := by decide +kernel
theorem dL_law_1171 : decode cL_law 1171 = .ok (.iconst 1, 1) := by decide +kernel
theorem dL_law_1172 : decode cL_law 1172 = .ok (.iadd, 1) := by decide +kernel
theorem dL_law_1173 : decode cL_law 1173 = .ok (.iaload, 1) := by decide +kernel
theorem dL_law_1174 : decode cL_law 1174 = .ok (.aload_n 0, 1) := by decide +kernel
theorem dL_law_1175 : decode cL_law 1175 = .ok (.iload_n 3, 1) := by decide +kernel
theorem dL_law_1176 : decode cL_law 1176 = .ok (.iconst 2, 1) := by decide +kernel
theorem dL_law_1177 : decode cL_law 1177 = .ok (.iadd, 1) := by decide +kernel
theorem dL_law_1178 : decode cL_law 1178 = .ok (.iaload, 1) := by decide +kernel
theorem dL_law_1179 : decode cL_law 1179 = .ok (.i2l, 1) := by decide +kernel
theorem dL_law_1180 : decode cL_law 1180 = .ok (.bipush 32, 2) := by decide +kernel
theorem dL_law_1182 : decode cL_law 1182 = .ok (.lshl, 1) := by decide +kernel
theorem dL_law_1183 : decode cL_law 1183 = .ok (.aload_n 0, 1) := by decide +kernel
theorem dL_law_1184 : decode cL_law 1184 = .ok (.iload_n 3, 1) := by decide +kernel
theorem dL_law_1185 : decode cL_law 1185 = .ok (.iconst 3, 1) := by decide +kernel
theorem dL_law_1186 : decode cL_law 1186 = .ok (.iadd, 1) := by decide +kernel
theorem dL_law_1187 : decode cL_law 1187 = .ok (.iaload, 1) := by decide +kernel
theorem dL_law_1188 : decode cL_law 1188 = .ok (.i2l, 1) := by decide +kernel
theorem dL_law_1189 : decode cL_law 1189 = .ok (.ldc2_w 37, 3) := by decide +kernel
theorem dL_law_1192 : decode cL_law 1192 = .ok (.land, 1) := by decide +kernel
theorem dL_law_1193 : decode cL_law 1193 = .ok (.lor, 1) := by decide +kernel
theorem dL_law_1194 : decode cL_law 1194 = .ok (.aload_n 0, 1) := by decide +kernel
theorem dL_law_1195 : decode cL_law 1195 = .ok (.iload_n 3, 1) := by decide +kernel
theorem dL_law_1196 : decode cL_law 1196 = .ok (.iconst 4, 1) := by decide +kernel
theorem dL_law_1197 : decode cL_law 1197 = .ok (.iadd, 1) := by decide +kernel
theorem dL_law_1198 : decode cL_law 1198 = .ok (.iaload, 1) := by decide +kernel
theorem dL_law_1199 : decode cL_law 1199 = .ok (.i2l, 1) := by decide +kernel
theorem dL_law_1200 : decode cL_law 1200 = .ok (.bipush 32, 2) := by decide +kernel
theorem dL_law_1202 : decode cL_law 1202 = .ok (.lshl, 1) := by decide +kernel
theorem dL_law_1203 : decode cL_law 1203 = .ok (.aload_n 0, 1) := by decide +kernel
theorem dL_law_1204 : decode cL_law 1204 = .ok (.iload_n 3, 1) := by decide +kernel
theorem dL_law_1205 : decode cL_law 1205 = .ok (.iconst 5, 1) := by decide +kernel
theorem dL_law_1206 : decode cL_law 1206 = .ok (.iadd, 1) := by decide +kernel
theorem dL_law_1207 : decode cL_law 1207 = .ok (.iaload, 1) := by decide +kernel
theorem dL_law_1208 : decode cL_law 1208 = .ok (.i2l, 1) := by decide +kernel
theorem dL_law_1209 : decode cL_law 1209 = .ok (.ldc2_w 37, 3) := by decide +kernel
theorem dL_law_1212 : decode cL_law 1212 = .ok (.land, 1) := by decide +kernel
theorem dL_law_1213 : decode cL_law 1213 = .ok (.lor, 1) := by decide +kernel
theorem dL_law_1214 : decode cL_law 1214 = .ok (.invokevirtual 130, 3) := by decide +kernel
theorem dL_law_1217 : decode cL_law 1217 = .ok (.if_icmp .eq 565, 3) := by decide +kernel
theorem dL_law_1220 : decode cL_law 1220 = .ok (.iconst 0, 1) := by decide +kernel
theorem dL_law_1221 : decode cL_law 1221 = .ok (.ireturn, 1) := by decide +kernel
set_option maxRecDepth 100000 in
set_option maxHeartbeats 4000000 in
theorem case_26 {p : Program} {l : Launch} {e : Env} {s : State} {m : MethodId} {args : Array Value} {below : List Frame} {meth : Method} {c : Code} {D : va_G} {ac : Nat → ClassId} {A : Nat → Prop} {Q : State → Prop} {adX adM : Nat → Nat} {b n nc ns : Nat} {xs : Nat → Int32} {N : Nat} {Rel : Mem → Mem → Prop} (hp : PureOk N Rel) (C : LC p s m args c D ac A adX adM b n xs) (hnc : nc ≤ 600000) (hns : ns ≤ 7302250) {x3 : Int32} (hi1 : vp_in (x3 + 1) n) (hi2 : vp_in (x3 + 2) n) (hi3 : vp_in (x3 + 3) n) (hi4 : vp_in (x3 + 4) n) (hi5 : vp_in (x3 + 5) n) (Mx Mm : Mem) (hrel : Rel Mx Mm) (next : ∀ Mx2 Mm2, Rel Mx2 Mm2 → Ac p l e room_1 s m args below meth c D A 4 Q 1782 [(0, .ref b), (1, .ref (adX 0)), (2, .ref (adM 0)), (3, .int x3)] [] (wXM ac adX adM Mx2 Mm2) nc ns) : Ac p l e room_1 s m args below meth c D A 4 Q 1119 [(0, .ref b), (1, .ref (adX 0)), (2, .ref (adM 0)), (3, .int x3)] [] (wXM ac adX adM Mx Mm) nc ns := by
  obtain ⟨r, Mx2, Mm2, hx, hm, hrel2⟩ := (hp.2.2.2.2.2.2.2.2.2.2.2.2.2.2.2.2.2.2.2.2.2.2.2.2.2.2.2.1) Mx Mm (xs (x3 + 1).toNatClampNeg) (((xs (x3 + 2).toNatClampNeg).toInt64 <<< ((32 : Int32).toInt64 &&& 63)) ||| ((xs (x3 + 3).toNatClampNeg).toInt64 &&& 4294967295)) (((xs (x3 + 4).toNatClampNeg).toInt64 <<< ((32 : Int32).toInt64 &&& 63)) ||| ((xs (x3 + 5).toNatClampNeg).toInt64 &&& 4294967295)) hrel
  refine c_aload_n (pc := 1119) C.1 dL_law_1119 1 rfl ?_
  refine c_aload_n (pc := 1120) C.1 dL_law_1120 0 rfl ?_
  refine c_iload_n (pc := 1121) C.1 dL_law_1121 3 rfl ?_
  refine c_iconst (pc := 1122) (v := 1) C.1 dL_law_1122 (by decide) ?_
  refine c_iadd (pc := 1123) C.1 dL_law_1123 ?_
  refine c_sld (pc := 1124) C dL_law_1124 hi1 ?_
  refine c_aload_n (pc := 1125) C.1 dL_law_1125 0 rfl ?_
  refine c_iload_n (pc := 1126) C.1 dL_law_1126 3 rfl ?_
  refine c_iconst (pc := 1127) (v := 2) C.1 dL_law_1127 (by decide) ?_
  refine c_iadd (pc := 1128) C.1 dL_law_1128 ?_
  refine c_sld (pc := 1129) C dL_law_1129 hi2 ?_
  refine c_i2l (pc := 1130) C.1 dL_law_1130 ?_
  refine c_bipush (pc := 1131) (v := 32) C.1 dL_law_1131 (by decide) ?_
  refine c_lshl (pc := 1133) C.1 dL_law_1133 ?_
  refine c_aload_n (pc := 1134) C.1 dL_law_1134 0 rfl ?_
  refine c_iload_n (pc := 1135) C.1 dL_law_1135 3 rfl ?_
  refine c_iconst (pc := 1136) (v := 3) C.1 dL_law_1136 (by decide) ?_
  refine c_iadd (pc := 1137) C.1 dL_law_1137 ?_
  refine c_sld (pc := 1138) C dL_law_1138 hi3 ?_
  refine c_i2l (pc := 1139) C.1 dL_law_1139 ?_
  refine c_ldc2 (pc := 1140) C.1 dL_law_1140 cj_L_37 ?_
  refine c_land (pc := 1143) C.1 dL_law_1143 ?_
  refine c_lor (pc := 1144) C.1 dL_law_1144 ?_
  refine c_aload_n (pc := 1145) C.1 dL_law_1145 0 rfl ?_
  refine c_iload_n (pc := 1146) C.1 dL_law_1146 3 rfl ?_
  refine c_iconst (pc := 1147) (v := 4) C.1 dL_law_1147 (by decide) ?_
  refine c_iadd (pc := 1148) C.1 dL_law_1148 ?_
  refine c_sld (pc := 1149) C dL_law_1149 hi4 ?_
  refine c_i2l (pc := 1150) C.1 dL_law_1150 ?_
  refine c_bipush (pc := 1151) (v := 32) C.1 dL_law_1151 (by decide) ?_
  refine c_lshl (pc := 1153) C.1 dL_law_1153 ?_
  refine c_aload_n (pc := 1154) C.1 dL_law_1154 0 rfl ?_
  refine c_iload_n (pc := 1155) C.1 dL_law_1155 3 rfl ?_
  refine c_iconst (pc := 1156) (v := 5) C.1 dL_law_1156 (by decide) ?_
  refine c_iadd (pc := 1157) C.1 dL_law_1157 ?_
  refine c_sld (pc := 1158) C dL_law_1158 hi5 ?_
  refine c_i2l (pc := 1159) C.1 dL_law_1159 ?_
  refine c_ldc2 (pc := 1160) C.1 dL_law_1160 cj_L_37 ?_
  refine c_land (pc := 1163) C.1 dL_law_1163 ?_
  refine c_lor (pc := 1164) C.1 dL_law_1164 ?_
  refine l_callX_I (pc := 1165) C dL_law_1165 ml_L_126 mc_X7_fraction mv_X7_fraction rfl [.int (xs (x3 + 1).toNatClampNeg), .long (((xs (x3 + 2).toNatClampNeg).toInt64 <<< ((32 : Int32).toInt64 &&& 63)) ||| ((xs (x3 + 3).toNatClampNeg).toInt64 &&& 4294967295)), .long (((xs (x3 + 4).toNatClampNeg).toInt64 <<< ((32 : Int32).toInt64 &&& 63)) ||| ((xs (x3 + 5).toNatClampNeg).toInt64 &&& 4294967295))] rfl (by decide) (by decide) rfl (Nat.le_of_ble_eq_true rfl) ⟨hnc, hns⟩ (c_X7_fraction N (xs (x3 + 1).toNatClampNeg) (((xs (x3 + 2).toNatClampNeg).toInt64 <<< ((32 : Int32).toInt64 &&& 63)) ||| ((xs (x3 + 3).toNatClampNeg).toInt64 &&& 4294967295)) (((xs (x3 + 4).toNatClampNeg).toInt64 <<< ((32 : Int32).toInt64 &&& 63)) ||| ((xs (x3 + 5).toNatClampNeg).toInt64 &&& 4294967295)) _ _ _ hx) ?_
  refine c_aload_n (pc := 1168) C.1 dL_law_1168 2 rfl ?_
  refine c_aload_n (pc := 1169) C.1 dL_law_1169 0 rfl ?_
  refine c_iload_n (pc := 1170) C.1 dL_law_1170 3 rfl ?_
  refine c_iconst (pc := 1171) (v := 1) C.1 dL_law_1171 (by decide) ?_
  refine c_iadd (pc := 1172) C.1 dL_law_1172 ?_
  refine c_sld (pc := 1173) C dL_law_1173 hi1 ?_
  refine c_aload_n (pc := 1174) C.1 dL_law_1174 0 rfl ?_
  refine c_iload_n (pc := 1175) C.1 dL_law_1175 3 rfl ?_
  refine c_iconst (pc := 1176) (v := 2) C.1 dL_law_1176 (by decide) ?_
  refine c_iadd (pc := 1177) C.1 dL_law_1177 ?_
  refine c_sld (pc := 1178) C dL_law_1178 hi2 ?_
  refine c_i2l (pc := 1179) C.1 dL_law_1179 ?_
  refine c_bipush (pc := 1180) (v := 32) C.1 dL_law_1180 (by decide) ?_
  refine c_lshl (pc := 1182) C.1 dL_law_1182 ?_
  refine c_aload_n (pc := 1183) C.1 dL_law_1183 0 rfl ?_
  refine c_iload_n (pc := 1184) C.1 dL_law_1184 3 rfl ?_
  refine c_iconst (pc := 1185) (v := 3) C.1 dL_law_1185 (by decide) ?_
  refine c_iadd (pc := 1186) C.1 dL_law_1186 ?_
  refine c_sld (pc := 1187) C dL_law_1187 hi3 ?_
  refine c_i2l (pc := 1188) C.1 dL_law_1188 ?_
  refine c_ldc2 (pc := 1189) C.1 dL_law_1189 cj_L_37 ?_
  refine c_land (pc := 1192) C.1 dL_law_1192 ?_
  refine c_lor (pc := 1193) C.1 dL_law_1193 ?_
  refine c_aload_n (pc := 1194) C.1 dL_law_1194 0 rfl ?_
  refine c_iload_n (pc := 1195) C.1 dL_law_1195 3 rfl ?_
  refine c_iconst (pc := 1196) (v := 4) C.1 dL_law_1196 (by decide) ?_
  refine c_iadd (pc := 1197) C.1 dL_law_1197 ?_
  refine c_sld (pc := 1198) C dL_law_1198 hi4 ?_
  refine c_i2l (pc := 1199) C.1 dL_law_1199 ?_
  refine c_bipush (pc := 1200) (v := 32) C.1 dL_law_1200 (by decide) ?_
  refine c_lshl (pc := 1202) C.1 dL_law_1202 ?_
  refine c_aload_n (pc := 1203) C.1 dL_law_1203 0 rfl ?_
  refine c_iload_n (pc := 1204) C.1 dL_law_1204 3 rfl ?_
  refine c_iconst (pc := 1205) (v := 5) C.1 dL_law_1205 (by decide) ?_
  refine c_iadd (pc := 1206) C.1 dL_law_1206 ?_
  refine c_sld (pc := 1207) C dL_law_1207 hi5 ?_
  refine c_i2l (pc := 1208) C.1 dL_law_1208 ?_
  refine c_ldc2 (pc := 1209) C.1 dL_law_1209 cj_L_37 ?_
  refine c_land (pc := 1212) C.1 dL_law_1212 ?_
  refine c_lor (pc := 1213) C.1 dL_law_1213 ?_
  refine l_callM_I (pc := 1214) C dL_law_1214 ml_L_130 mc_X8_fraction mv_X8_fraction rfl [.int (xs (x3 + 1).toNatClampNeg), .long (((xs (x3 + 2).toNatClampNeg).toInt64 <<< ((32 : Int32).toInt64 &&& 63)) ||| ((xs (x3 + 3).toNatClampNeg).toInt64 &&& 4294967295)), .long (((xs (x3 + 4).toNatClampNeg).toInt64 <<< ((32 : Int32).toInt64 &&& 63)) ||| ((xs (x3 + 5).toNatClampNeg).toInt64 &&& 4294967295))] rfl (by decide) (by decide) rfl (Nat.le_of_ble_eq_true rfl) ⟨hnc, hns⟩ (c_X8_fraction N (xs (x3 + 1).toNatClampNeg) (((xs (x3 + 2).toNatClampNeg).toInt64 <<< ((32 : Int32).toInt64 &&& 63)) ||| ((xs (x3 + 3).toNatClampNeg).toInt64 &&& 4294967295)) (((xs (x3 + 4).toNatClampNeg).toInt64 <<< ((32 : Int32).toInt64 &&& 63)) ||| ((xs (x3 + 5).toNatClampNeg).toInt64 &&& 4294967295)) _ _ _ hm) ?_
  refine c_icmp_eq (pc := 1217) 1782 C.1 dL_law_1217 (by decide) (fun _ => ?_) (fun h => absurd rfl h)
  exact next _ _ hrel2
theorem dL_law_1222 : decode cL_law 1222 = .ok (.aload_n 1, 1) := by decide +kernel
theorem dL_law_1223 : decode cL_law 1223 = .ok (.aload_n 0, 1) := by decide +kernel
theorem dL_law_1224 : decode cL_law 1224 = .ok (.iload_n 3, 1) := by decide +kernel
theorem dL_law_1225 : decode cL_law 1225 = .ok (.iconst 1, 1) := by decide +kernel
theorem dL_law_1226 : decode cL_law 1226 = .ok (.iadd, 1) := by decide +kernel
theorem dL_law_1227 : decode cL_law 1227 = .ok (.iaload, 1) := by decide +kernel
theorem dL_law_1228 : decode cL_law 1228 = .ok (.aload_n 0, 1) := by decide +kernel
theorem dL_law_1229 : decode cL_law 1229 = .ok (.iload_n 3, 1) := by decide +kernel
theorem dL_law_1230 : decode cL_law 1230 = .ok (.iconst 2, 1) := by decide +kernel
theorem dL_law_1231 : decode cL_law 1231 = .ok (.iadd, 1) := by decide +kernel
theorem dL_law_1232 : decode cL_law 1232 = .ok (.iaload, 1) := by decide +kernel
theorem dL_law_1233 : decode cL_law 1233 = .ok (.aload_n 0, 1) := by decide +kernel
theorem dL_law_1234 : decode cL_law 1234 = .ok (.iload_n 3, 1) := by decide +kernel
theorem dL_law_1235 : decode cL_law 1235 = .ok (.iconst 3, 1) := by decide +kernel
theorem dL_law_1236 : decode cL_law 1236 = .ok (.iadd, 1) := by decide +kernel
theorem dL_law_1237 : decode cL_law 1237 = .ok (.iaload, 1) := by decide +kernel
theorem dL_law_1238 : decode cL_law 1238 = .ok (.invokevirtual 131, 3) := by decide +kernel
theorem dL_law_1241 : decode cL_law 1241 = .ok (.aload_n 2, 1) := by decide +kernel
theorem dL_law_1242 : decode cL_law 1242 = .ok (.aload_n 0, 1) := by decide +kernel
theorem dL_law_1243 : decode cL_law 1243 = .ok (.iload_n 3, 1) := by decide +kernel
theorem dL_law_1244 : decode cL_law 1244 = .ok (.iconst 1, 1) := by decide +kernel
theorem dL_law_1245 : decode cL_law 1245 = .ok (.iadd, 1) := by decide +kernel
theorem dL_law_1246 : decode cL_law 1246 = .ok (.iaload, 1) := by decide +kernel
theorem dL_law_1247 : decode cL_law 1247 = .ok (.aload_n 0, 1) := by decide +kernel
theorem dL_law_1248 : decode cL_law 1248 = .ok (.iload_n 3, 1) := by decide +kernel
theorem dL_law_1249 : decode cL_law 1249 = .ok (.iconst 2, 1) := by decide +kernel
theorem dL_law_1250 : decode cL_law 1250 = .ok (.iadd, 1) := by decide +kernel
theorem dL_law_1251 : decode cL_law 1251 = .ok (.iaload, 1) := by decide +kernel
theorem dL_law_1252 : decode cL_law 1252 = .ok (.aload_n 0, 1) := by decide +kernel
theorem dL_law_1253 : decode cL_law 1253 = .ok (.iload_n 3, 1) := by decide +kernel
theorem dL_law_1254 : decode cL_law 1254 = .ok (.iconst 3, 1) := by decide +kernel
theorem dL_law_1255 : decode cL_law 1255 = .ok (.iadd, 1) := by decide +kernel
theorem dL_law_1256 : decode cL_law 1256 = .ok (.iaload, 1) := by decide +kernel
theorem dL_law_1257 : decode cL_law 1257 = .ok (.invokevirtual 134, 3) := by decide +kernel
theorem dL_law_1260 : decode cL_law 1260 = .ok (.if_icmp .eq 522, 3) := by decide +kernel
theorem dL_law_1263 : decode cL_law 1263 = .ok (.iconst 0, 1) := by decide +kernel
theorem dL_law_1264 : decode cL_law 1264 = .ok (.ireturn, 1) := by decide +kernel
set_option maxRecDepth 100000 in
set_option maxHeartbeats 4000000 in
theorem case_27 {p : Program} {l : Launch} {e : Env} {s : State} {m : MethodId} {args : Array Value} {below : List Frame} {meth : Method} {c : Code} {D : va_G} {ac : Nat → ClassId} {A : Nat → Prop} {Q : State → Prop} {adX adM : Nat → Nat} {b n nc ns : Nat} {xs : Nat → Int32} {N : Nat} {Rel : Mem → Mem → Prop} (hp : PureOk N Rel) (C : LC p s m args c D ac A adX adM b n xs) (hnc : nc ≤ 600000) (hns : ns ≤ 7302250) {x3 : Int32} (hi1 : vp_in (x3 + 1) n) (hi2 : vp_in (x3 + 2) n) (hi3 : vp_in (x3 + 3) n) (hi4 : vp_in (x3 + 4) n) (hi5 : vp_in (x3 + 5) n) (Mx Mm : Mem) (hrel : Rel Mx Mm) (next : ∀ Mx2 Mm2, Rel Mx2 Mm2 → Ac p l e room_1 s m args below meth c D A 4 Q 1782 [(0, .ref b), (1, .ref (adX 0)), (2, .ref (adM 0)), (3, .int x3)] [] (wXM ac adX adM Mx2 Mm2) nc ns) : Ac p l e room_1 s m args below meth c D A 4 Q 1222 [(0, .ref b), (1, .ref (adX 0)), (2, .ref (adM 0)), (3, .int x3)] [] (wXM ac adX adM Mx Mm) nc ns := by
  obtain ⟨r, Mx2, Mm2, hx, hm, hrel2⟩ := (hp.2.2.2.2.2.2.2.2.2.2.2.2.2.2.2.2.2.2.2.2.2.2.2.2.2.2.2.2.1) Mx Mm (xs (x3 + 1).toNatClampNeg) (xs (x3 + 2).toNatClampNeg) (xs (x3 + 3).toNatClampNeg) hrel
  refine c_aload_n (pc := 1222) C.1 dL_law_1222 1 rfl ?_
  refine c_aload_n (pc := 1223) C.1 dL_law_1223 0 rfl ?_
  refine c_iload_n (pc := 1224) C.1 dL_law_1224 3 rfl ?_
  refine c_iconst (pc := 1225) (v := 1) C.1 dL_law_1225 (by decide) ?_
  refine c_iadd (pc := 1226) C.1 dL_law_1226 ?_
  refine c_sld (pc := 1227) C dL_law_1227 hi1 ?_
  refine c_aload_n (pc := 1228) C.1 dL_law_1228 0 rfl ?_
  refine c_iload_n (pc := 1229) C.1 dL_law_1229 3 rfl ?_
  refine c_iconst (pc := 1230) (v := 2) C.1 dL_law_1230 (by decide) ?_
  refine c_iadd (pc := 1231) C.1 dL_law_1231 ?_
  refine c_sld (pc := 1232) C dL_law_1232 hi2 ?_
  refine c_aload_n (pc := 1233) C.1 dL_law_1233 0 rfl ?_
  refine c_iload_n (pc := 1234) C.1 dL_law_1234 3 rfl ?_
  refine c_iconst (pc := 1235) (v := 3) C.1 dL_law_1235 (by decide) ?_
  refine c_iadd (pc := 1236) C.1 dL_law_1236 ?_
  refine c_sld (pc := 1237) C dL_law_1237 hi3 ?_
  refine l_callX_I (pc := 1238) C dL_law_1238 ml_L_131 mc_X7_hold mv_X7_hold rfl [.int (xs (x3 + 1).toNatClampNeg), .int (xs (x3 + 2).toNatClampNeg), .int (xs (x3 + 3).toNatClampNeg)] rfl (by decide) (by decide) rfl (Nat.le_of_ble_eq_true rfl) ⟨hnc, hns⟩ (c_X7_hold N (xs (x3 + 1).toNatClampNeg) (xs (x3 + 2).toNatClampNeg) (xs (x3 + 3).toNatClampNeg) _ _ _ hx) ?_
  refine c_aload_n (pc := 1241) C.1 dL_law_1241 2 rfl ?_
  refine c_aload_n (pc := 1242) C.1 dL_law_1242 0 rfl ?_
  refine c_iload_n (pc := 1243) C.1 dL_law_1243 3 rfl ?_
  refine c_iconst (pc := 1244) (v := 1) C.1 dL_law_1244 (by decide) ?_
  refine c_iadd (pc := 1245) C.1 dL_law_1245 ?_
  refine c_sld (pc := 1246) C dL_law_1246 hi1 ?_
  refine c_aload_n (pc := 1247) C.1 dL_law_1247 0 rfl ?_
  refine c_iload_n (pc := 1248) C.1 dL_law_1248 3 rfl ?_
  refine c_iconst (pc := 1249) (v := 2) C.1 dL_law_1249 (by decide) ?_
  refine c_iadd (pc := 1250) C.1 dL_law_1250 ?_
  refine c_sld (pc := 1251) C dL_law_1251 hi2 ?_
  refine c_aload_n (pc := 1252) C.1 dL_law_1252 0 rfl ?_
  refine c_iload_n (pc := 1253) C.1 dL_law_1253 3 rfl ?_
  refine c_iconst (pc := 1254) (v := 3) C.1 dL_law_1254 (by decide) ?_
  refine c_iadd (pc := 1255) C.1 dL_law_1255 ?_
  refine c_sld (pc := 1256) C dL_law_1256 hi3 ?_
  refine l_callM_I (pc := 1257) C dL_law_1257 ml_L_134 mc_X8_hold mv_X8_hold rfl [.int (xs (x3 + 1).toNatClampNeg), .int (xs (x3 + 2).toNatClampNeg), .int (xs (x3 + 3).toNatClampNeg)] rfl (by decide) (by decide) rfl (Nat.le_of_ble_eq_true rfl) ⟨hnc, hns⟩ (c_X8_hold N (xs (x3 + 1).toNatClampNeg) (xs (x3 + 2).toNatClampNeg) (xs (x3 + 3).toNatClampNeg) _ _ _ hm) ?_
  refine c_icmp_eq (pc := 1260) 1782 C.1 dL_law_1260 (by decide) (fun _ => ?_) (fun h => absurd rfl h)
  exact next _ _ hrel2
theorem dL_law_1265 : decode cL_law 1265 = .ok (.aload_n 1, 1) := by decide +kernel
theorem dL_law_1266 : decode cL_law 1266 = .ok (.aload_n 0, 1) := by decide +kernel
theorem dL_law_1267 : decode cL_law 1267 = .ok (.iload_n 3, 1) := by decide +kernel
theorem dL_law_1268 : decode cL_law 1268 = .ok (.iconst 1, 1) := by decide +kernel
theorem dL_law_1269 : decode cL_law 1269 = .ok (.iadd, 1) := by decide +kernel
theorem dL_law_1270 : decode cL_law 1270 = .ok (.iaload, 1) := by decide +kernel
theorem dL_law_1271 : decode cL_law 1271 = .ok (.aload_n 0, 1) := by decide +kernel
theorem dL_law_1272 : decode cL_law 1272 = .ok (.iload_n 3, 1) := by decide +kernel
theorem dL_law_1273 : decode cL_law 1273 = .ok (.iconst 2, 1) := by decide +kernel
theorem dL_law_1274 : decode cL_law 1274 = .ok (.iadd, 1) := by decide +kernel
theorem dL_law_1275 : decode cL_law 1275 = .ok (.iaload, 1) := by decide +kernel
theorem dL_law_1276 : decode cL_law 1276 = .ok (.aload_n 0, 1) := by decide +kernel
theorem dL_law_1277 : decode cL_law 1277 = .ok (.iload_n 3, 1) := by decide +kernel
theorem dL_law_1278 : decode cL_law 1278 = .ok (.iconst 3, 1) := by decide +kernel
theorem dL_law_1279 : decode cL_law 1279 = .ok (.iadd, 1) := by decide +kernel
theorem dL_law_1280 : decode cL_law 1280 = .ok (.iaload, 1) := by decide +kernel
theorem dL_law_1281 : decode cL_law 1281 = .ok (.invokevirtual 135, 3) := by decide +kernel
theorem dL_law_1284 : decode cL_law 1284 = .ok (.aload_n 2, 1) := by decide +kernel
theorem dL_law_1285 : decode cL_law 1285 = .ok (.aload_n 0, 1) := by decide +kernel
theorem dL_law_1286 : decode cL_law 1286 = .ok (.iload_n 3, 1) := by decide +kernel
theorem dL_law_1287 : decode cL_law 1287 = .ok (.iconst 1, 1) := by decide +kernel
theorem dL_law_1288 : decode cL_law 1288 = .ok (.iadd, 1) := by decide +kernel
theorem dL_law_1289 : decode cL_law 1289 = .ok (.iaload, 1) := by decide +kernel
theorem dL_law_1290 : decode cL_law 1290 = .ok (.aload_n 0, 1) := by decide +kernel
theorem dL_law_1291 : decode cL_law 1291 = .ok (.iload_n 3, 1) := by decide +kernel
theorem dL_law_1292 : decode cL_law 1292 = .ok (.iconst 2, 1) := by decide +kernel
theorem dL_law_1293 : decode cL_law 1293 = .ok (.iadd, 1) := by decide +kernel
theorem dL_law_1294 : decode cL_law 1294 = .ok (.iaload, 1) := by decide +kernel
theorem dL_law_1295 : decode cL_law 1295 = .ok (.aload_n 0, 1) := by decide +kernel
theorem dL_law_1296 : decode cL_law 1296 = .ok (.iload_n 3, 1) := by decide +kernel
theorem dL_law_1297 : decode cL_law 1297 = .ok (.iconst 3, 1) := by decide +kernel
theorem dL_law_1298 : decode cL_law 1298 = .ok (.iadd, 1) := by decide +kernel
theorem dL_law_1299 : decode cL_law 1299 = .ok (.iaload, 1) := by decide +kernel
theorem dL_law_1300 : decode cL_law 1300 = .ok (.invokevirtual 138, 3) := by decide +kernel
theorem dL_law_1303 : decode cL_law 1303 = .ok (.if_icmp .eq 479, 3) := by decide +kernel
theorem dL_law_1306 : decode cL_law 1306 = .ok (.iconst 0, 1) := by decide +kernel
theorem dL_law_1307 : decode cL_law 1307 = .ok (.ireturn, 1) := by decide +kernel
set_option maxRecDepth 100000 in
set_option maxHeartbeats 4000000 in
theorem case_28 {p : Program} {l : Launch} {e : Env} {s : State} {m : MethodId} {args : Array Value} {below : List Frame} {meth : Method} {c : Code} {D : va_G} {ac : Nat → ClassId} {A : Nat → Prop} {Q : State → Prop} {adX adM : Nat → Nat} {b n nc ns : Nat} {xs : Nat → Int32} {N : Nat} {Rel : Mem → Mem → Prop} (hp : PureOk N Rel) (C : LC p s m args c D ac A adX adM b n xs) (hnc : nc ≤ 600000) (hns : ns ≤ 7302250) {x3 : Int32} (hi1 : vp_in (x3 + 1) n) (hi2 : vp_in (x3 + 2) n) (hi3 : vp_in (x3 + 3) n) (hi4 : vp_in (x3 + 4) n) (hi5 : vp_in (x3 + 5) n) (Mx Mm : Mem) (hrel : Rel Mx Mm) (next : ∀ Mx2 Mm2, Rel Mx2 Mm2 → Ac p l e room_1 s m args below meth c D A 4 Q 1782 [(0, .ref b), (1, .ref (adX 0)), (2, .ref (adM 0)), (3, .int x3)] [] (wXM ac adX adM Mx2 Mm2) nc ns) : Ac p l e room_1 s m args below meth c D A 4 Q 1265 [(0, .ref b), (1, .ref (adX 0)), (2, .ref (adM 0)), (3, .int x3)] [] (wXM ac adX adM Mx Mm) nc ns := by
  obtain ⟨r, Mx2, Mm2, hx, hm, hrel2⟩ := (hp.2.2.2.2.2.2.2.2.2.2.2.2.2.2.2.2.2.2.2.2.2.2.2.2.2.2.2.2.2.1) Mx Mm (xs (x3 + 1).toNatClampNeg) (xs (x3 + 2).toNatClampNeg) (xs (x3 + 3).toNatClampNeg) hrel
  refine c_aload_n (pc := 1265) C.1 dL_law_1265 1 rfl ?_
  refine c_aload_n (pc := 1266) C.1 dL_law_1266 0 rfl ?_
  refine c_iload_n (pc := 1267) C.1 dL_law_1267 3 rfl ?_
  refine c_iconst (pc := 1268) (v := 1) C.1 dL_law_1268 (by decide) ?_
  refine c_iadd (pc := 1269) C.1 dL_law_1269 ?_
  refine c_sld (pc := 1270) C dL_law_1270 hi1 ?_
  refine c_aload_n (pc := 1271) C.1 dL_law_1271 0 rfl ?_
  refine c_iload_n (pc := 1272) C.1 dL_law_1272 3 rfl ?_
  refine c_iconst (pc := 1273) (v := 2) C.1 dL_law_1273 (by decide) ?_
  refine c_iadd (pc := 1274) C.1 dL_law_1274 ?_
  refine c_sld (pc := 1275) C dL_law_1275 hi2 ?_
  refine c_aload_n (pc := 1276) C.1 dL_law_1276 0 rfl ?_
  refine c_iload_n (pc := 1277) C.1 dL_law_1277 3 rfl ?_
  refine c_iconst (pc := 1278) (v := 3) C.1 dL_law_1278 (by decide) ?_
  refine c_iadd (pc := 1279) C.1 dL_law_1279 ?_
  refine c_sld (pc := 1280) C dL_law_1280 hi3 ?_
  refine l_callX_I (pc := 1281) C dL_law_1281 ml_L_135 mc_X7_does mv_X7_does rfl [.int (xs (x3 + 1).toNatClampNeg), .int (xs (x3 + 2).toNatClampNeg), .int (xs (x3 + 3).toNatClampNeg)] rfl (by decide) (by decide) rfl (Nat.le_of_ble_eq_true rfl) ⟨hnc, hns⟩ (c_X7_does N (xs (x3 + 1).toNatClampNeg) (xs (x3 + 2).toNatClampNeg) (xs (x3 + 3).toNatClampNeg) _ _ _ hx) ?_
  refine c_aload_n (pc := 1284) C.1 dL_law_1284 2 rfl ?_
  refine c_aload_n (pc := 1285) C.1 dL_law_1285 0 rfl ?_
  refine c_iload_n (pc := 1286) C.1 dL_law_1286 3 rfl ?_
  refine c_iconst (pc := 1287) (v := 1) C.1 dL_law_1287 (by decide) ?_
  refine c_iadd (pc := 1288) C.1 dL_law_1288 ?_
  refine c_sld (pc := 1289) C dL_law_1289 hi1 ?_
  refine c_aload_n (pc := 1290) C.1 dL_law_1290 0 rfl ?_
  refine c_iload_n (pc := 1291) C.1 dL_law_1291 3 rfl ?_
  refine c_iconst (pc := 1292) (v := 2) C.1 dL_law_1292 (by decide) ?_
  refine c_iadd (pc := 1293) C.1 dL_law_1293 ?_
  refine c_sld (pc := 1294) C dL_law_1294 hi2 ?_
  refine c_aload_n (pc := 1295) C.1 dL_law_1295 0 rfl ?_
  refine c_iload_n (pc := 1296) C.1 dL_law_1296 3 rfl ?_
  refine c_iconst (pc := 1297) (v := 3) C.1 dL_law_1297 (by decide) ?_
  refine c_iadd (pc := 1298) C.1 dL_law_1298 ?_
  refine c_sld (pc := 1299) C dL_law_1299 hi3 ?_
  refine l_callM_I (pc := 1300) C dL_law_1300 ml_L_138 mc_X8_does mv_X8_does rfl [.int (xs (x3 + 1).toNatClampNeg), .int (xs (x3 + 2).toNatClampNeg), .int (xs (x3 + 3).toNatClampNeg)] rfl (by decide) (by decide) rfl (Nat.le_of_ble_eq_true rfl) ⟨hnc, hns⟩ (c_X8_does N (xs (x3 + 1).toNatClampNeg) (xs (x3 + 2).toNatClampNeg) (xs (x3 + 3).toNatClampNeg) _ _ _ hm) ?_
  refine c_icmp_eq (pc := 1303) 1782 C.1 dL_law_1303 (by decide) (fun _ => ?_) (fun h => absurd rfl h)
  exact next _ _ hrel2
