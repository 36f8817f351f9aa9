theorem dL_law_950 : decode cL_law 950 = .ok (.aload_n 1, 1) := by decide +kernel
theorem dL_law_951 : decode cL_law 951 = .ok (.aload_n 0, 1) := by decide +kernel
theorem dL_law_952 : decode cL_law 952 = .ok (.iload_n 3, 1) := by decide +kernel
theorem dL_law_953 : decode cL_law 953 = .ok (.iconst 1, 1) := by decide +kernel
theorem dL_law_954 : decode cL_law 954 = .ok (.iadd, 1) := by decide +kernel
theorem dL_law_955 : decode cL_law 955 = .ok (.iaload, 1) := by decide +kernel
theorem dL_law_956 : decode cL_law 956 = .ok (.aload_n 0, 1) := by decide +kernel
theorem dL_law_957 : decode cL_law 957 = .ok (.iload_n 3, 1) := by decide +kernel
theorem dL_law_958 : decode cL_law 958 = .ok (.iconst 2, 1) := by decide +kernel
theorem dL_law_959 : decode cL_law 959 = .ok (.iadd, 1) := by decide +kernel
theorem dL_law_960 : decode cL_law 960 = .ok (.iaload, 1) := by decide +kernel
theorem dL_law_961 : decode cL_law 961 = .ok (.aload_n 0, 1) := by decide +kernel
theorem dL_law_962 : decode cL_law 962 = .ok (.iload_n 3, 1) := by decide +kernel
theorem dL_law_963 : decode cL_law 963 = .ok (.iconst 3, 1) := by decide +kernel
theorem dL_law_964 : decode cL_law 964 = .ok (.iadd, 1) := by decide +kernel
theorem dL_law_965 : decode cL_law 965 = .ok (.iaload, 1) := by decide +kernel
theorem dL_law_966 : decode cL_law 966 = .ok (.aload_n 0, 1) := by decide +kernel
theorem dL_law_967 : decode cL_law 967 = .ok (.iload_n 3, 1) := by decide +kernel
theorem dL_law_968 : decode cL_law 968 = .ok (.iconst 4, 1) := by decide +kernel
theorem dL_law_969 : decode cL_law 969 = .ok (.iadd, 1) := by decide +kernel
theorem dL_law_970 : decode cL_law 970 = .ok (.iaload, 1) := by decide +kernel
theorem dL_law_971 : decode cL_law 971 = .ok (.invokevirtual 113, 3) := by decide +kernel
theorem dL_law_974 : decode cL_law 974 = .ok (.aload_n 2, 1) := by decide +kernel
theorem dL_law_975 : decode cL_law 975 = .ok (.aload_n 0, 1) := by decide +kernel
theorem dL_law_976 : decode cL_law 976 = .ok (.iload_n 3, 1) := by decide +kernel
theorem dL_law_977 : decode cL_law 977 = .ok (.iconst 1, 1) := by decide +kernel
theorem dL_law_978 : decode cL_law 978 = .ok (.iadd, 1) := by decide +kernel
theorem dL_law_979 : decode cL_law 979 = .ok (.iaload, 1) := by decide +kernel
theorem dL_law_980 : decode cL_law 980 = .ok (.aload_n 0, 1) := by decide +kernel
theorem dL_law_981 : decode cL_law 981 = .ok (.iload_n 3, 1) := by decide +kernel
theorem dL_law_982 : decode cL_law 982 = .ok (.iconst 2, 1) := by decide +kernel
theorem dL_law_983 : decode cL_law 983 = .ok (.iadd, 1) := by decide +kernel
theorem dL_law_984 : decode cL_law 984 = .ok (.iaload, 1) := by decide +kernel
theorem dL_law_985 : decode cL_law 985 = .ok (.aload_n 0, 1) := by decide +kernel
theorem dL_law_986 : decode cL_law 986 = .ok (.iload_n 3, 1) := by decide +kernel
theorem dL_law_987 : decode cL_law 987 = .ok (.iconst 3, 1) := by decide +kernel
theorem dL_law_988 : decode cL_law 988 = .ok (.iadd, 1) := by decide +kernel
theorem dL_law_989 : decode cL_law 989 = .ok (.iaload, 1) := by decide +kernel
theorem dL_law_990 : decode cL_law 990 = .ok (.aload_n 0, 1) := by decide +kernel
theorem dL_law_991 : decode cL_law 991 = .ok (.iload_n 3, 1) := by decide +kernel
theorem dL_law_992 : decode cL_law 992 = .ok (.iconst 4, 1) := by decide +kernel
theorem dL_law_993 : decode cL_law 993 = .ok (.iadd, 1) := by decide +kernel
theorem dL_law_994 : decode cL_law 994 = .ok (.iaload, 1) := by decide +kernel
theorem dL_law_995 : decode cL_law 995 = .ok (.invokevirtual 116, 3) := by decide +kernel
theorem dL_law_998 : decode cL_law 998 = .ok (.if_icmp .eq 784, 3) := by decide +kernel
theorem dL_law_1001 : decode cL_law 1001 = .ok (.iconst 0, 1) := by decide +kernel
theorem dL_law_1002 : decode cL_law 1002 = .ok (.ireturn, 1) := by decide +kernel
set_option maxRecDepth 100000 in
set_option maxHeartbeats 4000000 in
theorem case_23 {p : Program} {l : Launch} {e : Env} {s : State} {m : MethodId} {args : Array Value} {below : List Frame} {meth : Method} {c : Code} {D : va_G} {ac : Nat → ClassId} {A : Nat → Prop} {Q : State → Prop} {adX adM : Nat → Nat} {b n nc ns : Nat} {xs : Nat → Int32} {N : Nat} {Rel : Mem → Mem → Prop} (hp : PureOk N Rel) (C : LC p s m args c D ac A adX adM b n xs) (hnc : nc ≤ 600000) (hns : ns ≤ 7302250) {x3 : Int32} (hi1 : vp_in (x3 + 1) n) (hi2 : vp_in (x3 + 2) n) (hi3 : vp_in (x3 + 3) n) (hi4 : vp_in (x3 + 4) n) (hi5 : vp_in (x3 + 5) n) (Mx Mm : Mem) (hrel : Rel Mx Mm) (next : ∀ Mx2 Mm2, Rel Mx2 Mm2 → Ac p l e room_1 s m args below meth c D A 4 Q 1782 [(0, .ref b), (1, .ref (adX 0)), (2, .ref (adM 0)), (3, .int x3)] [] (wXM ac adX adM Mx2 Mm2) nc ns) : Ac p l e room_1 s m args below meth c D A 4 Q 950 [(0, .ref b), (1, .ref (adX 0)), (2, .ref (adM 0)), (3, .int x3)] [] (wXM ac adX adM Mx Mm) nc ns := by
  obtain ⟨r, Mx2, Mm2, hx, hm, hrel2⟩ := (hp.2.2.2.2.2.2.2.2.2.2.2.2.2.2.2.2.2.2.2.2.2.2.2.2.1) Mx Mm (xs (x3 + 1).toNatClampNeg) (xs (x3 + 2).toNatClampNeg) (xs (x3 + 3).toNatClampNeg) (xs (x3 + 4).toNatClampNeg) hrel
  refine c_aload_n (pc := 950) C.1 dL_law_950 1 rfl ?_
  refine c_aload_n (pc := 951) C.1 dL_law_951 0 rfl ?_
  refine c_iload_n (pc := 952) C.1 dL_law_952 3 rfl ?_
  refine c_iconst (pc := 953) (v := 1) C.1 dL_law_953 (by decide) ?_
  refine c_iadd (pc := 954) C.1 dL_law_954 ?_
  refine c_sld (pc := 955) C dL_law_955 hi1 ?_
  refine c_aload_n (pc := 956) C.1 dL_law_956 0 rfl ?_
  refine c_iload_n (pc := 957) C.1 dL_law_957 3 rfl ?_
  refine c_iconst (pc := 958) (v := 2) C.1 dL_law_958 (by decide) ?_
  refine c_iadd (pc := 959) C.1 dL_law_959 ?_
  refine c_sld (pc := 960) C dL_law_960 hi2 ?_
  refine c_aload_n (pc := 961) C.1 dL_law_961 0 rfl ?_
  refine c_iload_n (pc := 962) C.1 dL_law_962 3 rfl ?_
  refine c_iconst (pc := 963) (v := 3) C.1 dL_law_963 (by decide) ?_
  refine c_iadd (pc := 964) C.1 dL_law_964 ?_
  refine c_sld (pc := 965) C dL_law_965 hi3 ?_
  refine c_aload_n (pc := 966) C.1 dL_law_966 0 rfl ?_
  refine c_iload_n (pc := 967) C.1 dL_law_967 3 rfl ?_
  refine c_iconst (pc := 968) (v := 4) C.1 dL_law_968 (by decide) ?_
  refine c_iadd (pc := 969) C.1 dL_law_969 ?_
  refine c_sld (pc := 970) C dL_law_970 hi4 ?_
  refine l_callX_I (pc := 971) C dL_law_971 ml_L_113 mc_X7_tight mv_X7_tight rfl [.int (xs (x3 + 1).toNatClampNeg), .int (xs (x3 + 2).toNatClampNeg), .int (xs (x3 + 3).toNatClampNeg), .int (xs (x3 + 4).toNatClampNeg)] rfl (by decide) (by decide) rfl (Nat.le_of_ble_eq_true rfl) ⟨hnc, hns⟩ (c_X7_tight N (xs (x3 + 1).toNatClampNeg) (xs (x3 + 2).toNatClampNeg) (xs (x3 + 3).toNatClampNeg) (xs (x3 + 4).toNatClampNeg) _ _ _ hx) ?_
  refine c_aload_n (pc := 974) C.1 dL_law_974 2 rfl ?_
  refine c_aload_n (pc := 975) C.1 dL_law_975 0 rfl ?_
  refine c_iload_n (pc := 976) C.1 dL_law_976 3 rfl ?_
  refine c_iconst (pc := 977) (v := 1) C.1 dL_law_977 (by decide) ?_
  refine c_iadd (pc := 978) C.1 dL_law_978 ?_
  refine c_sld (pc := 979) C dL_law_979 hi1 ?_
  refine c_aload_n (pc := 980) C.1 dL_law_980 0 rfl ?_
  refine c_iload_n (pc := 981) C.1 dL_law_981 3 rfl ?_
  refine c_iconst (pc := 982) (v := 2) C.1 dL_law_982 (by decide) ?_
  refine c_iadd (pc := 983) C.1 dL_law_983 ?_
  refine c_sld (pc := 984) C dL_law_984 hi2 ?_
  refine c_aload_n (pc := 985) C.1 dL_law_985 0 rfl ?_
  refine c_iload_n (pc := 986) C.1 dL_law_986 3 rfl ?_
  refine c_iconst (pc := 987) (v := 3) C.1 dL_law_987 (by decide) ?_
  refine c_iadd (pc := 988) C.1 dL_law_988 ?_
  refine c_sld (pc := 989) C dL_law_989 hi3 ?_
  refine c_aload_n (pc := 990) C.1 dL_law_990 0 rfl ?_
  refine c_iload_n (pc := 991) C.1 dL_law_991 3 rfl ?_
  refine c_iconst (pc := 992) (v := 4) C.1 dL_law_992 (by decide) ?_
  refine c_iadd (pc := 993) C.1 dL_law_993 ?_
  refine c_sld (pc := 994) C dL_law_994 hi4 ?_
  refine l_callM_I (pc := 995) C dL_law_995 ml_L_116 mc_X8_tight mv_X8_tight rfl [.int (xs (x3 + 1).toNatClampNeg), .int (xs (x3 + 2).toNatClampNeg), .int (xs (x3 + 3).toNatClampNeg), .int (xs (x3 + 4).toNatClampNeg)] rfl (by decide) (by decide) rfl (Nat.le_of_ble_eq_true rfl) ⟨hnc, hns⟩ (c_X8_tight N (xs (x3 + 1).toNatClampNeg) (xs (x3 + 2).toNatClampNeg) (xs (x3 + 3).toNatClampNeg) (xs (x3 + 4).toNatClampNeg) _ _ _ hm) ?_
  refine c_icmp_eq (pc := 998) 1782 C.1 dL_law_998 (by decide) (fun _ => ?_) (fun h => absurd rfl h)
  exact next _ _ hrel2
theorem dL_law_1003 : decode cL_law 1003 = .ok (.aload_n 1, 1) := by decide +kernel
theorem dL_law_1004 : decode cL_law 1004 = .ok (.aload_n 0, 1) := by decide +kernel
theorem dL_law_1005 : decode cL_law 1005 = .ok (.iload_n 3, 1) := by decide +kernel
theorem dL_law_1006 : decode cL_law 1006 = .ok (.iconst 1, 1) := by decide +kernel
theorem dL_law_1007 : decode cL_law 1007 = .ok (.iadd, 1) := by decide +kernel
theorem dL_law_1008 : decode cL_law 1008 = .ok (.iaload, 1) := by decide +kernel
theorem dL_law_1009 : decode cL_law 1009 = .ok (.aload_n 0, 1) := by decide +kernel
theorem dL_law_1010 : decode cL_law 1010 = .ok (.iload_n 3, 1) := by decide +kernel
theorem dL_law_1011 : decode cL_law 1011 = .ok (.iconst 2, 1) := by decide +kernel
theorem dL_law_1012 : decode cL_law 1012 = .ok (.iadd, 1) := by decide +kernel
theorem dL_law_1013 : decode cL_law 1013 = .ok (.iaload, 1) := by decide +kernel
theorem dL_law_1014 : decode cL_law 1014 = .ok (.aload_n 0, 1) := by decide +kernel
theorem dL_law_1015 : decode cL_law 1015 = .ok (.iload_n 3, 1) := by decide +kernel
theorem dL_law_1016 : decode cL_law 1016 = .ok (.iconst 3, 1) := by decide +kernel
theorem dL_law_1017 : decode cL_law 1017 = .ok (.iadd, 1) := by decide +kernel
theorem dL_law_1018 : decode cL_law 1018 = .ok (.iaload, 1) := by decide +kernel
theorem dL_law_1019 : decode cL_law 1019 = .ok (.aload_n 0, 1) := by decide +kernel
theorem dL_law_1020 : decode cL_law 1020 = .ok (.iload_n 3, 1) := by decide +kernel
theorem dL_law_1021 : decode cL_law 1021 = .ok (.iconst 4, 1) := by decide +kernel
theorem dL_law_1022 : decode cL_law 1022 = .ok (.iadd, 1) := by decide +kernel
theorem dL_law_1023 : decode cL_law 1023 = .ok (.iaload, 1) := by decide +kernel
theorem dL_law_1024 : decode cL_law 1024 = .ok (.invokevirtual 117, 3) := by decide +kernel
theorem dL_law_1027 : decode cL_law 1027 = .ok (.aload_n 2, 1) := by decide +kernel
theorem dL_law_1028 : decode cL_law 1028 = .ok (.aload_n 0, 1) := by decide +kernel
theorem dL_law_1029 : decode cL_law 1029 = .ok (.iload_n 3, 1) := by decide +kernel
theorem dL_law_1030 : decode cL_law 1030 = .ok (.iconst 1, 1) := by decide +kernel
theorem dL_law_1031 : decode cL_law 1031 = .ok (.iadd, 1) := by decide +kernel
theorem dL_law_1032 : decode cL_law 1032 = .ok (.iaload, 1) := by decide +kernel
theorem dL_law_1033 : decode cL_law 1033 = .ok (.aload_n 0, 1) := by decide +kernel
theorem dL_law_1034 : decode cL_law 1034 = .ok (.iload_n 3, 1) := by decide +kernel
theorem dL_law_1035 : decode cL_law 1035 = .ok (.iconst 2, 1) := by decide +kernel
theorem dL_law_1036 : decode cL_law 1036 = .ok (.iadd, 1) := by decide +kernel
theorem dL_law_1037 : decode cL_law 1037 = .ok (.iaload, 1) := by decide +kernel
theorem dL_law_1038 : decode cL_law 1038 = .ok (.aload_n 0, 1) := by decide +kernel
theorem dL_law_1039 : decode cL_law 1039 = .ok (.iload_n 3, 1) := by decide +kernel
theorem dL_law_1040 : decode cL_law 1040 = .ok (.iconst 3, 1) := by decide +kernel
theorem dL_law_1041 : decode cL_law 1041 = .ok (.iadd, 1) := by decide +kernel
theorem dL_law_1042 : decode cL_law 1042 = .ok (.iaload, 1) := by decide +kernel
theorem dL_law_1043 : decode cL_law 1043 = .ok (.aload_n 0, 1) := by decide +kernel
theorem dL_law_1044 : decode cL_law 1044 = .ok (.iload_n 3, 1) := by decide +kernel
theorem dL_law_1045 : decode cL_law 1045 = .ok (.iconst 4, 1) := by decide +kernel
theorem dL_law_1046 : decode cL_law 1046 = .ok (.iadd, 1) := by decide +kernel
theorem dL_law_1047 : decode cL_law 1047 = .ok (.iaload, 1) := by decide +kernel
theorem dL_law_1048 : decode cL_law 1048 = .ok (.invokevirtual 120, 3) := by decide +kernel
theorem dL_law_1051 : decode cL_law 1051 = .ok (.if_icmp .eq 731, 3) := by decide +kernel
theorem dL_law_1054 : decode cL_law 1054 = .ok (.iconst 0, 1) := by decide +kernel
theorem dL_law_1055 : decode cL_law 1055 = .ok (.ireturn, 1) := by decide +kernel
set_option maxRecDepth 100000 in
set_option maxHeartbeats 4000000 in
theorem case_24 {p : Program} {l : Launch} {e : Env} {s : State} {m : MethodId} {args : Array Value} {below : List Frame} {meth : Method} {c : Code} {D : va_G} {ac : Nat → ClassId} {A : Nat → Prop} {Q : State → Prop} {adX adM : Nat → Nat} {b n nc ns : Nat} {xs : Nat → Int32} {N : Nat} {Rel : Mem → Mem → Prop} (hp : PureOk N Rel) (C : LC p s m args c D ac A adX adM b n xs) (hnc : nc ≤ 600000) (hns : ns ≤ 7302250) {x3 : Int32} (hi1 : vp_in (x3 + 1) n) (hi2 : vp_in (x3 + 2) n) (hi3 : vp_in (x3 + 3) n) (hi4 : vp_in (x3 + 4) n) (hi5 : vp_in (x3 + 5) n) (Mx Mm : Mem) (hrel : Rel Mx Mm) (next : ∀ Mx2 Mm2, Rel Mx2 Mm2 → Ac p l e room_1 s m args below meth c D A 4 Q 1782 [(0, .ref b), (1, .ref (adX 0)), (2, .ref (adM 0)), (3, .int x3)] [] (wXM ac adX adM Mx2 Mm2) nc ns) : Ac p l e room_1 s m args below meth c D A 4 Q 1003 [(0, .ref b), (1, .ref (adX 0)), (2, .ref (adM 0)), (3, .int x3)] [] (wXM ac adX adM Mx Mm) nc ns := by
  obtain ⟨r, Mx2, Mm2, hx, hm, hrel2⟩ := (hp.2.2.2.2.2.2.2.2.2.2.2.2.2.2.2.2.2.2.2.2.2.2.2.2.2.1) Mx Mm (xs (x3 + 1).toNatClampNeg) (xs (x3 + 2).toNatClampNeg) (xs (x3 + 3).toNatClampNeg) (xs (x3 + 4).toNatClampNeg) hrel
  refine c_aload_n (pc := 1003) C.1 dL_law_1003 1 rfl ?_
  refine c_aload_n (pc := 1004) C.1 dL_law_1004 0 rfl ?_
  refine c_iload_n (pc := 1005) C.1 dL_law_1005 3 rfl ?_
  refine c_iconst (pc := 1006) (v := 1) C.1 dL_law_1006 (by decide) ?_
  refine c_iadd (pc := 1007) C.1 dL_law_1007 ?_
  refine c_sld (pc := 1008) C dL_law_1008 hi1 ?_
  refine c_aload_n (pc := 1009) C.1 dL_law_1009 0 rfl ?_
  refine c_iload_n (pc := 1010) C.1 dL_law_1010 3 rfl ?_
  refine c_iconst (pc := 1011) (v := 2) C.1 dL_law_1011 (by decide) ?_
  refine c_iadd (pc := 1012) C.1 dL_law_1012 ?_
  refine c_sld (pc := 1013) C dL_law_1013 hi2 ?_
  refine c_aload_n (pc := 1014) C.1 dL_law_1014 0 rfl ?_
  refine c_iload_n (pc := 1015) C.1 dL_law_1015 3 rfl ?_
  refine c_iconst (pc := 1016) (v := 3) C.1 dL_law_1016 (by decide) ?_
  refine c_iadd (pc := 1017) C.1 dL_law_1017 ?_
  refine c_sld (pc := 1018) C dL_law_1018 hi3 ?_
  refine c_aload_n (pc := 1019) C.1 dL_law_1019 0 rfl ?_
  refine c_iload_n (pc := 1020) C.1 dL_law_1020 3 rfl ?_
  refine c_iconst (pc := 1021) (v := 4) C.1 dL_law_1021 (by decide) ?_
  refine c_iadd (pc := 1022) C.1 dL_law_1022 ?_
  refine c_sld (pc := 1023) C dL_law_1023 hi4 ?_
  refine l_callX_I (pc := 1024) C dL_law_1024 ml_L_117 mc_X7_rounds mv_X7_rounds rfl [.int (xs (x3 + 1).toNatClampNeg), .int (xs (x3 + 2).toNatClampNeg), .int (xs (x3 + 3).toNatClampNeg), .int (xs (x3 + 4).toNatClampNeg)] rfl (by decide) (by decide) rfl (Nat.le_of_ble_eq_true rfl) ⟨hnc, hns⟩ (c_X7_rounds N (xs (x3 + 1).toNatClampNeg) (xs (x3 + 2).toNatClampNeg) (xs (x3 + 3).toNatClampNeg) (xs (x3 + 4).toNatClampNeg) _ _ _ hx) ?_
  refine c_aload_n (pc := 1027) C.1 dL_law_1027 2 rfl ?_
  refine c_aload_n (pc := 1028) C.1 dL_law_1028 0 rfl ?_
  refine c_iload_n (pc := 1029) C.1 dL_law_1029 3 rfl ?_
  refine c_iconst (pc := 1030) (v := 1) C.1 dL_law_1030 (by decide) ?_
  refine c_iadd (pc := 1031) C.1 dL_law_1031 ?_
  refine c_sld (pc := 1032) C dL_law_1032 hi1 ?_
  refine c_aload_n (pc := 1033) C.1 dL_law_1033 0 rfl ?_
  refine c_iload_n (pc := 1034) C.1 dL_law_1034 3 rfl ?_
  refine c_iconst (pc := 1035) (v := 2) C.1 dL_law_1035 (by decide) ?_
  refine c_iadd (pc := 1036) C.1 dL_law_1036 ?_
  refine c_sld (pc := 1037) C dL_law_1037 hi2 ?_
  refine c_aload_n (pc := 1038) C.1 dL_law_1038 0 rfl ?_
  refine c_iload_n (pc := 1039) C.1 dL_law_1039 3 rfl ?_
  refine c_iconst (pc := 1040) (v := 3) C.1 dL_law_1040 (by decide) ?_
  refine c_iadd (pc := 1041) C.1 dL_law_1041 ?_
  refine c_sld (pc := 1042) C dL_law_1042 hi3 ?_
  refine c_aload_n (pc := 1043) C.1 dL_law_1043 0 rfl ?_
  refine c_iload_n (pc := 1044) C.1 dL_law_1044 3 rfl ?_
  refine c_iconst (pc := 1045) (v := 4) C.1 dL_law_1045 (by decide) ?_
  refine c_iadd (pc := 1046) C.1 dL_law_1046 ?_
  refine c_sld (pc := 1047) C dL_law_1047 hi4 ?_
  refine l_callM_I (pc := 1048) C dL_law_1048 ml_L_120 mc_X8_rounds mv_X8_rounds rfl [.int (xs (x3 + 1).toNatClampNeg), .int (xs (x3 + 2).toNatClampNeg), .int (xs (x3 + 3).toNatClampNeg), .int (xs (x3 + 4).toNatClampNeg)] rfl (by decide) (by decide) rfl (Nat.le_of_ble_eq_true rfl) ⟨hnc, hns⟩ (c_X8_rounds N (xs (x3 + 1).toNatClampNeg) (xs (x3 + 2).toNatClampNeg) (xs (x3 + 3).toNatClampNeg) (xs (x3 + 4).toNatClampNeg) _ _ _ hm) ?_
  refine c_icmp_eq (pc := 1051) 1782 C.1 dL_law_1051 (by decide) (fun _ => ?_) (fun h => absurd rfl h)
  exact next _ _ hrel2
theorem dL_law_1056 : decode cL_law 1056 = .ok (.aload_n 1, 1) := by decide +kernel
theorem dL_law_1057 : decode cL_law 1057 = .ok (.aload_n 0, 1) := by decide +kernel
theorem dL_law_1058 : decode cL_law 1058 = .ok (.iload_n 3, 1) := by decide +kernel
theorem dL_law_1059 : decode cL_law 1059 = .ok (.iconst 1, 1) := by decide +kernel
theorem dL_law_1060 : decode cL_law 1060 = .ok (.iadd, 1) := by decide +kernel
theorem dL_law_1061 : decode cL_law 1061 = .ok (.iaload, 1) := by decide +kernel
theorem dL_law_1062 : decode cL_law 1062 = .ok (.aload_n 0, 1) := by decide +kernel
theorem dL_law_1063 : decode cL_law 1063 = .ok (.iload_n 3, 1) := by decide +kernel
theorem dL_law_1064 : decode cL_law 1064 = .ok (.iconst 2, 1) := by decide +kernel
theorem dL_law_1065 : decode cL_law 1065 = .ok (.iadd, 1) := by decide +kernel
theorem dL_law_1066 : decode cL_law 1066 = .ok (.iaload, 1) := by decide +kernel
theorem dL_law_1067 : decode cL_law 1067 = .ok (.aload_n 0, 1) := by decide +kernel
theorem dL_law_1068 : decode cL_law 1068 = .ok (.iload_n 3, 1) := by decide +kernel
theorem dL_law_1069 : decode cL_law 1069 = .ok (.iconst 3, 1) := by decide +kernel
theorem dL_law_1070 : decode cL_law 1070 = .ok (.iadd, 1) := by decide +kernel
theorem dL_law_1071 : decode cL_law 1071 = .ok (.iaload, 1) := by decide +kernel
theorem dL_law_1072 : decode cL_law 1072 = .ok (.aload_n 0, 1) := by decide +kernel
theorem dL_law_1073 : decode cL_law 1073 = .ok (.iload_n 3, 1) := by decide +kernel
theorem dL_law_1074 : decode cL_law 1074 = .ok (.iconst 4, 1) := by decide +kernel
theorem dL_law_1075 : decode cL_law 1075 = .ok (.iadd, 1) := by decide +kernel
theorem dL_law_1076 : decode cL_law 1076 = .ok (.iaload, 1) := by decide +kernel
theorem dL_law_1077 : decode cL_law 1077 = .ok (.aload_n 0, 1) := by decide +kernel
theorem dL_law_1078 : decode cL_law 1078 = .ok (.iload_n 3, 1) := by decide +kernel
theorem dL_law_1079 : decode cL_law 1079 = .ok (.iconst 5, 1) := by decide +kernel
theorem dL_law_1080 : decode cL_law 1080 = .ok (.iadd, 1) := by decide +kernel
theorem dL_law_1081 : decode cL_law 1081 = .ok (.iaload, 1) := by decide +kernel
theorem dL_law_1082 : decode cL_law 1082 = .ok (.invokevirtual 121, 3) := by decide +kernel
theorem dL_law_1085 : decode cL_law 1085 = .ok (.aload_n 2, 1) := by decide +kernel
theorem dL_law_1086 : decode cL_law 1086 = .ok (.aload_n 0, 1) := by decide +kernel
theorem dL_law_1087 : decode cL_law 1087 = .ok (.iload_n 3, 1) := by decide +kernel
theorem dL_law_1088 : decode cL_law 1088 = .ok (.iconst 1, 1) := by decide +kernel
theorem dL_law_1089 : decode cL_law 1089 = .ok (.iadd, 1) := by decide +kernel
theorem dL_law_1090 : decode cL_law 1090 = .ok (.iaload, 1) := by decide +kernel
theorem dL_law_1091 : decode cL_law 1091 = .ok (.aload_n 0, 1) := by decide +kernel
theorem dL_law_1092 : decode cL_law 1092 = .ok (.iload_n 3, 1) := by decide +kernel
theorem dL_law_1093 : decode cL_law 1093 = .ok (.iconst 2, 1) := by decide +kernel
theorem dL_law_1094 : decode cL_law 1094 = .ok (.iadd, 1) := by decide +kernel
theorem dL_law_1095 : decode cL_law 1095 = .ok (.iaload, 1) := by decide +kernel
theorem dL_law_1096 : decode cL_law 1096 = .ok (.aload_n 0, 1) := by decide +kernel
theorem dL_law_1097 : decode cL_law 1097 = .ok (.iload_n 3, 1) := by decide +kernel
theorem dL_law_1098 : decode cL_law 1098 = .ok (.iconst 3, 1) := by decide +kernel
theorem dL_law_1099 : decode cL_law 1099 = .ok (.iadd, 1) := by decide +kernel
theorem dL_law_1100 : decode cL_law 1100 = .ok (.iaload, 1) := by decide +kernel
theorem dL_law_1101 : decode cL_law 1101 = .ok (.aload_n 0, 1) := by decide +kernel
theorem dL_law_1102 : decode cL_law 1102 = .ok (.iload_n 3, 1) := by decide +kernel
theorem dL_law_1103 : decode cL_law 1103 = .ok (.iconst 4, 1) := by decide +kernel
theorem dL_law_1104 : decode cL_law 1104 = .ok (.iadd, 1) := by decide +kernel
theorem dL_law_1105 : decode cL_law 1105 = .ok (.iaload, 1) := by decide +kernel
theorem dL_law_1106 : decode cL_law 1106 = .ok (.aload_n 0, 1) := by decide +kernel
theorem dL_law_1107 : decode cL_law 1107 = .ok (.iload_n 3, 1) := by decide +kernel
theorem dL_law_1108 : decode cL_law 1108 = .ok (.iconst 5, 1) := by decide +kernel
theorem dL_law_1109 : decode cL_law 1109 = .ok (.iadd, 1) := by decide +kernel
theorem dL_law_1110 : decode cL_law 1110 = .ok (.iaload, 1) := by decide +kernel
theorem dL_law_1111 : decode cL_law 1111 = .ok (.invokevirtual 125, 3) := by decide +kernel
theorem dL_law_1114 : decode cL_law 1114 = .ok (.if_icmp .eq 668, 3) := by decide +kernel
theorem dL_law_1117 : decode cL_law 1117 = .ok (.iconst 0, 1) := by decide +kernel
theorem dL_law_1118 : decode cL_law 1118 = .ok (.ireturn, 1) := by decide +kernel
set_option maxRecDepth 100000 in
set_option maxHeartbeats 4000000 in
theorem case_25 {p : Program} {l : Launch} {e : Env} {s : State} {m : MethodId} {args : Array Value} {below : List Frame} {meth : Method} {c : Code} {D : va_G} {ac : Nat → ClassId} {A : Nat → Prop} {Q : State → Prop} {adX adM : Nat → Nat} {b n nc ns : Nat} {xs : Nat → Int32} {N : Nat} {Rel : Mem → Mem → Prop} (hp : PureOk N Rel) (C : LC p s m args c D ac A adX adM b n xs) (hnc : nc ≤ 600000) (hns : ns ≤ 7302250) {x3 : Int32} (hi1 : vp_in (x3 + 1) n) (hi2 : vp_in (x3 + 2) n) (hi3 : vp_in (x3 + 3) n) (hi4 : vp_in (x3 + 4) n) (hi5 : vp_in (x3 + 5) n) (Mx Mm : Mem) (hrel : Rel Mx Mm) (next : ∀ Mx2 Mm2, Rel Mx2 Mm2 → Ac p l e room_1 s m args below meth c D A 4 Q 1782 [(0, .ref b), (1, .ref (adX 0)), (2, .ref (adM 0)), (3, .int x3)] [] (wXM ac adX adM Mx2 Mm2) nc ns) : Ac p l e room_1 s m args below meth c D A 4 Q 1056 [(0, .ref b), (1, .ref (adX 0)), (2, .ref (adM 0)), (3, .int x3)] [] (wXM ac adX adM Mx Mm) nc ns := by
  obtain ⟨r, hx, hm, hrel2⟩ := (hp.2.2.2.2.2.2.2.2.2.2.2.2.2.2.2.2.2.2.2.2.2.2.2.2.2.2.1) Mx Mm (xs (x3 + 1).toNatClampNeg) (xs (x3 + 2).toNatClampNeg) (xs (x3 + 3).toNatClampNeg) (xs (x3 + 4).toNatClampNeg) (xs (x3 + 5).toNatClampNeg) hrel
  refine c_aload_n (pc := 1056) C.1 dL_law_1056 1 rfl ?_
  refine c_aload_n (pc := 1057) C.1 dL_law_1057 0 rfl ?_
  refine c_iload_n (pc := 1058) C.1 dL_law_1058 3 rfl ?_
  refine c_iconst (pc := 1059) (v := 1) C.1 dL_law_1059 (by decide) ?_
  refine c_iadd (pc := 1060) C.1 dL_law_1060 ?_
  refine c_sld (pc := 1061) C dL_law_1061 hi1 ?_
  refine c_aload_n (pc := 1062) C.1 dL_law_1062 0 rfl ?_
  refine c_iload_n (pc := 1063) C.1 dL_law_1063 3 rfl ?_
  refine c_iconst (pc := 1064) (v := 2) C.1 dL_law_1064 (by decide) ?_
  refine c_iadd (pc := 1065) C.1 dL_law_1065 ?_
  refine c_sld (pc := 1066) C dL_law_1066 hi2 ?_
  refine c_aload_n (pc := 1067) C.1 dL_law_1067 0 rfl ?_
  refine c_iload_n (pc := 1068) C.1 dL_law_1068 3 rfl ?_
  refine c_iconst (pc := 1069) (v := 3) C.1 dL_law_1069 (by decide) ?_
  refine c_iadd (pc := 1070) C.1 dL_law_1070 ?_
  refine c_sld (pc := 1071) C dL_law_1071 hi3 ?_
  refine c_aload_n (pc := 1072) C.1 dL_law_1072 0 rfl ?_
  refine c_iload_n (pc := 1073) C.1 dL_law_1073 3 rfl ?_
  refine c_iconst (pc := 1074) (v := 4) C.1 dL_law_1074 (by decide) ?_
  refine c_iadd (pc := 1075) C.1 dL_law_1075 ?_
  refine c_sld (pc := 1076) C dL_law_1076 hi4 ?_
  refine c_aload_n (pc := 1077) C.1 dL_law_1077 0 rfl ?_
  refine c_iload_n (pc := 1078) C.1 dL_law_1078 3 rfl ?_
  refine c_iconst (pc := 1079) (v := 5) C.1 dL_law_1079 (by decide) ?_
  refine c_iadd (pc := 1080) C.1 dL_law_1080 ?_
  refine c_sld (pc := 1081) C dL_law_1081 hi5 ?_
  refine l_callX_I (pc := 1082) C dL_law_1082 ml_L_121 mc_X7_next mv_X7_next rfl [.int (xs (x3 + 1).toNatClampNeg), .int (xs (x3 + 2).toNatClampNeg), .int (xs (x3 + 3).toNatClampNeg), .int (xs (x3 + 4).toNatClampNeg), .int (xs (x3 + 5).toNatClampNeg)] rfl (by decide) (by decide) rfl (Nat.le_of_ble_eq_true rfl) ⟨hnc, hns⟩ (c_X7_next N (xs (x3 + 1).toNatClampNeg) (xs (x3 + 2).toNatClampNeg) (xs (x3 + 3).toNatClampNeg) (xs (x3 + 4).toNatClampNeg) (xs (x3 + 5).toNatClampNeg) _ _ hx) ?_
  refine c_aload_n (pc := 1085) C.1 dL_law_1085 2 rfl ?_
  refine c_aload_n (pc := 1086) C.1 dL_law_1086 0 rfl ?_
  refine c_iload_n (pc := 1087) C.1 dL_law_1087 3 rfl ?_
  refine c_iconst (pc := 1088) (v := 1) C.1 dL_law_1088 (by decide) ?_
  refine c_iadd (pc := 1089) C.1 dL_law_1089 ?_
  refine c_sld (pc := 1090) C dL_law_1090 hi1 ?_
  refine c_aload_n (pc := 1091) C.1 dL_law_1091 0 rfl ?_
  refine c_iload_n (pc := 1092) C.1 dL_law_1092 3 rfl ?_
  refine c_iconst (pc := 1093) (v := 2) C.1 dL_law_1093 (by decide) ?_
  refine c_iadd (pc := 1094) C.1 dL_law_1094 ?_
  refine c_sld (pc := 1095) C dL_law_1095 hi2 ?_
  refine c_aload_n (pc := 1096) C.1 dL_law_1096 0 rfl ?_
  refine c_iload_n (pc := 1097) C.1 dL_law_1097 3 rfl ?_
  refine c_iconst (pc := 1098) (v := 3) C.1 dL_law_1098 (by decide) ?_
  refine c_iadd (pc := 1099) C.1 dL_law_1099 ?_
  refine c_sld (pc := 1100) C dL_law_1100 hi3 ?_
  refine c_aload_n (pc := 1101) C.1 dL_law_1101 0 rfl ?_
  refine c_iload_n (pc := 1102) C.1 dL_law_1102 3 rfl ?_
  refine c_iconst (pc := 1103) (v := 4) C.1 dL_law_1103 (by decide) ?_
  refine c_iadd (pc := 1104) C.1 dL_law_1104 ?_
  refine c_sld (pc := 1105) C dL_law_1105 hi4 ?_
  refine c_aload_n (pc := 1106) C.1 dL_law_1106 0 rfl ?_
  refine c_iload_n (pc := 1107) C.1 dL_law_1107 3 rfl ?_
  refine c_iconst (pc := 1108) (v := 5) C.1 dL_law_1108 (by decide) ?_
  refine c_iadd (pc := 1109) C.1 dL_law_1109 ?_
  refine c_sld (pc := 1110) C dL_law_1110 hi5 ?_
  refine l_callM_I (pc := 1111) C dL_law_1111 ml_L_125 mc_X8_next mv_X8_next rfl [.int (xs (x3 + 1).toNatClampNeg), .int (xs (x3 + 2).toNatClampNeg), .int (xs (x3 + 3).toNatClampNeg), .int (xs (x3 + 4).toNatClampNeg), .int (xs (x3 + 5).toNatClampNeg)] rfl (by decide) (by decide) rfl (Nat.le_of_ble_eq_true rfl) ⟨hnc, hns⟩ (c_X8_next N (xs (x3 + 1).toNatClampNeg) (xs (x3 + 2).toNatClampNeg) (xs (x3 + 3).toNatClampNeg) (xs (x3 + 4).toNatClampNeg) (xs (x3 + 5).toNatClampNeg) _ _ hm) ?_
  refine c_icmp_eq (pc := 1114) 1782 C.1 dL_law_1114 (by decide) (fun _ => ?_) (fun h => absurd rfl h)
  exact next _ _ hrel2
