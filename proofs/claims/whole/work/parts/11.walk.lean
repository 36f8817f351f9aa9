theorem dX8_bits_0 : decode cX8_bits 0 = .ok (.iconst 0, 1) := by decide +kernel
theorem dX8_bits_1 : decode cX8_bits 1 = .ok (.istore_n 2, 1) := by decide +kernel
theorem dX8_bits_2 : decode cX8_bits 2 = .ok (.lload_n 0, 1) := by decide +kernel
theorem dX8_bits_3 : decode cX8_bits 3 = .ok (.lstore_n 3, 1) := by decide +kernel
theorem dX8_bits_4 : decode cX8_bits 4 = .ok (.lload_n 3, 1) := by decide +kernel
theorem dX8_bits_5 : decode cX8_bits 5 = .ok (.lconst 0, 1) := by decide +kernel
theorem dX8_bits_6 : decode cX8_bits 6 = .ok (.lcmp, 1) := by decide +kernel
theorem dX8_bits_7 : decode cX8_bits 7 = .ok (.ifCond .eq 15, 3) := by decide +kernel
theorem dX8_bits_10 : decode cX8_bits 10 = .ok (.iinc 2 1, 3) := by decide +kernel
theorem dX8_bits_13 : decode cX8_bits 13 = .ok (.lload_n 3, 1) := by decide +kernel
theorem dX8_bits_14 : decode cX8_bits 14 = .ok (.lload_n 3, 1) := by decide +kernel
theorem dX8_bits_15 : decode cX8_bits 15 = .ok (.lconst 1, 1) := by decide +kernel
theorem dX8_bits_16 : decode cX8_bits 16 = .ok (.lsub, 1) := by decide +kernel
theorem dX8_bits_17 : decode cX8_bits 17 = .ok (.land, 1) := by decide +kernel
theorem dX8_bits_18 : decode cX8_bits 18 = .ok (.lstore_n 3, 1) := by decide +kernel
theorem dX8_bits_19 : decode cX8_bits 19 = .ok (.goto (-15), 3) := by decide +kernel
theorem dX8_bits_22 : decode cX8_bits 22 = .ok (.iload_n 2, 1) := by decide +kernel
theorem dX8_bits_23 : decode cX8_bits 23 = .ok (.ireturn, 1) := by decide +kernel
def f_X8_bits (N : Nat) (x0 : Int64) (M : Mem) : Option (Int32) := lp (fun (k4 : (Int32 × Int64) → Option (Int32)) (a4 : Int32 × Int64) => if (lg_cmp a4.2 (0 : Int64)) = 0 then (some a4.1) else (nm (a4.1 + (1 : Int32)) (fun v1 => nm (a4.2 &&& (a4.2 - (1 : Int64))) (fun v2 => k4 (v1, v2))))) N ((0 : Int32), x0)
set_option maxRecDepth 100000 in
set_option maxHeartbeats 4000000 in
theorem c_X8_bits {l : Launch} {D : va_G} {ac : Nat → ClassId} {A : Nat → Prop} {ad : Nat → Nat} {rest : va_W} (N : Nat) (x0 : Int64)  (M : Mem) (r0 : Int32) (hf : f_X8_bits N x0 M = some r0) : CtI l D ac A tabM ad rest yX8_bits cX8_bits 5 .int 1 [.long x0] M r0 M := by
  refine ct_ofI (own := RX8) (by decide +kernel) rfl (Nat.le_of_ble_eq_true rfl) ?_
  intro p e s m args below meth c C
  unfold f_X8_bits at hf
  refine a_L (L' := [(0, .long x0)]) rfl ?_
  refine a_iconst (pc := 0) (v := 0) C dX8_bits_0 (by decide) ?_
  refine a_istore_n (pc := 1) [(2, .int (0 : Int32)), (0, .long x0)] C dX8_bits_1 (by decide) rfl ?_
  refine a_lload_n (pc := 2) C dX8_bits_2 1 rfl ?_
  refine a_lstore_n (pc := 3) [(3, .long x0), (2, .int (0 : Int32)), (0, .long x0)] C dX8_bits_3 (by decide) rfl ?_
  refine a_sub [1, 0] rfl ?_
  refine a_lp 4 (fun a4 : Int32 × Int64 => [(2, .int a4.1), (3, .long a4.2)]) (fun a4 : Int32 × Int64 => []) (fun a4 : Int32 × Int64 => M) (fun k4 a4 hk4 hf => ?_) N ((0 : Int32), x0) hf
  refine a_lload_n (pc := 4) C dX8_bits_4 1 rfl ?_
  refine a_lconst (pc := 5) (v := 0) C dX8_bits_5 (by decide) ?_
  refine a_lcmp (pc := 6) C dX8_bits_6 ?_
  refine a_if_eq (pc := 7) 22 C dX8_bits_7 (by decide) hf (fun hf => ?_) (fun hf => ?_)
  · refine a_iload_n (pc := 22) C dX8_bits_22 0 rfl ?_
    exact a_iret (pc := 23) C dX8_bits_23 (Option.some.inj hf) rfl
  · refine a_iinc (pc := 10) (v := 1) (fun v1 => [(2, .int v1), (3, .long a4.2)]) C dX8_bits_10 0 rfl (by decide) (by decide) (fun _ => rfl) hf (fun v1 hf => ?_)
    refine a_lload_n (pc := 13) C dX8_bits_13 1 rfl ?_
    refine a_lload_n (pc := 14) C dX8_bits_14 1 rfl ?_
    refine a_lconst (pc := 15) (v := 1) C dX8_bits_15 (by decide) ?_
    refine a_lsub (pc := 16) C dX8_bits_16 ?_
    refine a_land (pc := 17) C dX8_bits_17 ?_
    refine a_nml hf (fun v2 hf => ?_)
    refine a_lstore_n (pc := 18) [(3, .long v2), (2, .int v1)] C dX8_bits_18 (by decide) rfl ?_
    refine a_goto (pc := 19) 4 C dX8_bits_19 (by decide) ?_
    exact a_sub [1, 0] rfl (hk4 (v1, v2) hf)
theorem dX8_gapBy_0 : decode cX8_gapBy 0 = .ok (.iload_n 0, 1) := by decide +kernel
theorem dX8_gapBy_1 : decode cX8_gapBy 1 = .ok (.tableswitch 66 1 4 #[31, 35, 48, 52], 31) := by decide +kernel
theorem dX8_gapBy_32 : decode cX8_gapBy 32 = .ok (.iload_n 1, 1) := by decide +kernel
theorem dX8_gapBy_33 : decode cX8_gapBy 33 = .ok (.iconst 1, 1) := by decide +kernel
theorem dX8_gapBy_34 : decode cX8_gapBy 34 = .ok (.iadd, 1) := by decide +kernel
theorem dX8_gapBy_35 : decode cX8_gapBy 35 = .ok (.ireturn, 1) := by decide +kernel
theorem dX8_gapBy_36 : decode cX8_gapBy 36 = .ok (.iload_n 1, 1) := by decide +kernel
theorem dX8_gapBy_37 : decode cX8_gapBy 37 = .ok (.iconst 2, 1) := by decide +kernel
theorem dX8_gapBy_38 : decode cX8_gapBy 38 = .ok (.if_icmp .le 9, 3) := by decide +kernel
theorem dX8_gapBy_41 : decode cX8_gapBy 41 = .ok (.iload_n 1, 1) := by decide +kernel
theorem dX8_gapBy_42 : decode cX8_gapBy 42 = .ok (.iconst 1, 1) := by decide +kernel
theorem dX8_gapBy_43 : decode cX8_gapBy 43 = .ok (.isub, 1) := by decide +kernel
theorem dX8_gapBy_44 : decode cX8_gapBy 44 = .ok (.goto 4, 3) := by decide +kernel
theorem dX8_gapBy_47 : decode cX8_gapBy 47 = .ok (.iconst 1, 1) := by decide +kernel
theorem dX8_gapBy_48 : decode cX8_gapBy 48 = .ok (.ireturn, 1) := by decide +kernel
theorem dX8_gapBy_49 : decode cX8_gapBy 49 = .ok (.iload_n 3, 1) := by decide +kernel
theorem dX8_gapBy_50 : decode cX8_gapBy 50 = .ok (.iload_n 2, 1) := by decide +kernel
theorem dX8_gapBy_51 : decode cX8_gapBy 51 = .ok (.isub, 1) := by decide +kernel
theorem dX8_gapBy_52 : decode cX8_gapBy 52 = .ok (.ireturn, 1) := by decide +kernel
theorem dX8_gapBy_53 : decode cX8_gapBy 53 = .ok (.iload_n 2, 1) := by decide +kernel
theorem dX8_gapBy_54 : decode cX8_gapBy 54 = .ok (.iload_n 3, 1) := by decide +kernel
theorem dX8_gapBy_55 : decode cX8_gapBy 55 = .ok (.iadd, 1) := by decide +kernel
theorem dX8_gapBy_56 : decode cX8_gapBy 56 = .ok (.iconst 2, 1) := by decide +kernel
theorem dX8_gapBy_57 : decode cX8_gapBy 57 = .ok (.irem, 1) := by decide +kernel
theorem dX8_gapBy_58 : decode cX8_gapBy 58 = .ok (.ifCond .ne 7, 3) := by decide +kernel
theorem dX8_gapBy_61 : decode cX8_gapBy 61 = .ok (.iconst 2, 1) := by decide +kernel
theorem dX8_gapBy_62 : decode cX8_gapBy 62 = .ok (.goto 4, 3) := by decide +kernel
theorem dX8_gapBy_65 : decode cX8_gapBy 65 = .ok (.iload_n 1, 1) := by decide +kernel
theorem dX8_gapBy_66 : decode cX8_gapBy 66 = .ok (.ireturn, 1) := by decide +kernel
theorem dX8_gapBy_67 : decode cX8_gapBy 67 = .ok (.iload_n 1, 1) := by decide +kernel
theorem dX8_gapBy_68 : decode cX8_gapBy 68 = .ok (.ireturn, 1) := by decide +kernel
def f_X8_gapBy (N : Nat) (x0 : Int32) (x1 : Int32) (x2 : Int32) (x3 : Int32) (M : Mem) : Option (Int32) := if x0 = 1 then (some (x1 + (1 : Int32))) else if x0 = 2 then (if x1 ≤ (2 : Int32) then (some (1 : Int32)) else (some (x1 - (1 : Int32)))) else if x0 = 3 then (some (x3 - x2)) else if x0 = 4 then (ck (¬ (2 : Int32) = 0) (if ((x2 + x3) - (x2 + x3) / (2 : Int32) * (2 : Int32)) = 0 then (some (2 : Int32)) else (some x1))) else (some x1)
set_option maxRecDepth 100000 in
set_option maxHeartbeats 4000000 in
theorem c_X8_gapBy {l : Launch} {D : va_G} {ac : Nat → ClassId} {A : Nat → Prop} {ad : Nat → Nat} {rest : va_W} (N : Nat) (x0 : Int32) (x1 : Int32) (x2 : Int32) (x3 : Int32)  (M : Mem) (r0 : Int32) (hf : f_X8_gapBy N x0 x1 x2 x3 M = some r0) : CtI l D ac A tabM ad rest yX8_gapBy cX8_gapBy 4 .int 1 [.int x0, .int x1, .int x2, .int x3] M r0 M := by
  refine ct_ofI (own := RX8) (by decide +kernel) rfl (Nat.le_of_ble_eq_true rfl) ?_
  intro p e s m args below meth c C
  unfold f_X8_gapBy at hf
  refine a_L (L' := [(0, .int x0), (1, .int x1), (2, .int x2), (3, .int x3)]) rfl ?_
  refine a_iload_n (pc := 0) C dX8_gapBy_0 0 rfl ?_
  by_cases hs1 : x0 = 1
  · rw [if_pos hs1] at hf
    refine a_tabIn (pc := 1) (off := 31) 32 C dX8_gapBy_1 (by rw [hs1]; decide) (by rw [hs1]; decide) (by rw [hs1]; rfl) (by decide) ?_
    refine a_iload_n (pc := 32) C dX8_gapBy_32 1 rfl ?_
    refine a_iconst (pc := 33) (v := 1) C dX8_gapBy_33 (by decide) ?_
    refine a_iadd (pc := 34) C dX8_gapBy_34 ?_
    exact a_iret (pc := 35) C dX8_gapBy_35 (Option.some.inj hf) rfl
  · rw [if_neg hs1] at hf
    by_cases hs2 : x0 = 2
    · rw [if_pos hs2] at hf
      refine a_tabIn (pc := 1) (off := 35) 36 C dX8_gapBy_1 (by rw [hs2]; decide) (by rw [hs2]; decide) (by rw [hs2]; rfl) (by decide) ?_
      refine a_iload_n (pc := 36) C dX8_gapBy_36 1 rfl ?_
      refine a_iconst (pc := 37) (v := 2) C dX8_gapBy_37 (by decide) ?_
      refine a_icmp_le (pc := 38) 47 C dX8_gapBy_38 (by decide) hf (fun hf => ?_) (fun hf => ?_)
      · refine a_iconst (pc := 47) (v := 1) C dX8_gapBy_47 (by decide) ?_
        exact a_iret (pc := 48) C dX8_gapBy_48 (Option.some.inj hf) rfl
      · refine a_iload_n (pc := 41) C dX8_gapBy_41 1 rfl ?_
        refine a_iconst (pc := 42) (v := 1) C dX8_gapBy_42 (by decide) ?_
        refine a_isub (pc := 43) C dX8_gapBy_43 ?_
        refine a_goto (pc := 44) 48 C dX8_gapBy_44 (by decide) ?_
        exact a_iret (pc := 48) C dX8_gapBy_48 (Option.some.inj hf) rfl
    · rw [if_neg hs2] at hf
      by_cases hs3 : x0 = 3
      · rw [if_pos hs3] at hf
        refine a_tabIn (pc := 1) (off := 48) 49 C dX8_gapBy_1 (by rw [hs3]; decide) (by rw [hs3]; decide) (by rw [hs3]; rfl) (by decide) ?_
        refine a_iload_n (pc := 49) C dX8_gapBy_49 3 rfl ?_
        refine a_iload_n (pc := 50) C dX8_gapBy_50 2 rfl ?_
        refine a_isub (pc := 51) C dX8_gapBy_51 ?_
        exact a_iret (pc := 52) C dX8_gapBy_52 (Option.some.inj hf) rfl
      · rw [if_neg hs3] at hf
        by_cases hs4 : x0 = 4
        · rw [if_pos hs4] at hf
          refine a_tabIn (pc := 1) (off := 52) 53 C dX8_gapBy_1 (by rw [hs4]; decide) (by rw [hs4]; decide) (by rw [hs4]; rfl) (by decide) ?_
          refine a_iload_n (pc := 53) C dX8_gapBy_53 2 rfl ?_
          refine a_iload_n (pc := 54) C dX8_gapBy_54 3 rfl ?_
          refine a_iadd (pc := 55) C dX8_gapBy_55 ?_
          refine a_iconst (pc := 56) (v := 2) C dX8_gapBy_56 (by decide) ?_
          refine a_irem (pc := 57) C dX8_gapBy_57 hf (fun hf => ?_)
          refine a_if_ne (pc := 58) 65 C dX8_gapBy_58 (by decide) hf (fun hf => ?_) (fun hf => ?_)
          · refine a_iload_n (pc := 65) C dX8_gapBy_65 1 rfl ?_
            exact a_iret (pc := 66) C dX8_gapBy_66 (Option.some.inj hf) rfl
          · refine a_iconst (pc := 61) (v := 2) C dX8_gapBy_61 (by decide) ?_
            refine a_goto (pc := 62) 66 C dX8_gapBy_62 (by decide) ?_
            exact a_iret (pc := 66) C dX8_gapBy_66 (Option.some.inj hf) rfl
        · rw [if_neg hs4] at hf
          refine a_tabOut (pc := 1) 67 C dX8_gapBy_1 (by have nhs1 := ne_toInt hs1 (k := 1) (by decide); have nhs2 := ne_toInt hs2 (k := 2) (by decide); have nhs3 := ne_toInt hs3 (k := 3) (by decide); have nhs4 := ne_toInt hs4 (k := 4) (by decide); omega) (by decide) ?_
          refine a_iload_n (pc := 67) C dX8_gapBy_67 1 rfl ?_
          exact a_iret (pc := 68) C dX8_gapBy_68 (Option.some.inj hf) rfl
theorem dX8_between_0 : decode cX8_between 0 = .ok (.iconst (-1), 1) := by decide +kernel
theorem dX8_between_1 : decode cX8_between 1 = .ok (.istore_n 3, 1) := by decide +kernel
theorem dX8_between_2 : decode cX8_between 2 = .ok (.iconst 0, 1) := by decide +kernel
theorem dX8_between_3 : decode cX8_between 3 = .ok (.istore 4, 2) := by decide +kernel
theorem dX8_between_5 : decode cX8_between 5 = .ok (.iload 4, 2) := by decide +kernel
theorem dX8_between_7 : decode cX8_between 7 = .ok (.aload_n 0, 1) := by decide +kernel
theorem dX8_between_8 : decode cX8_between 8 = .ok (.getfield 102, 3) := by decide +kernel
theorem dX8_between_11 : decode cX8_between 11 = .ok (.if_icmp .ge 60, 3) := by decide +kernel
theorem dX8_between_14 : decode cX8_between 14 = .ok (.aload_n 0, 1) := by decide +kernel
theorem dX8_between_15 : decode cX8_between 15 = .ok (.getfield 20, 3) := by decide +kernel
theorem dX8_between_18 : decode cX8_between 18 = .ok (.iload 4, 2) := by decide +kernel
theorem dX8_between_20 : decode cX8_between 20 = .ok (.iaload, 1) := by decide +kernel
theorem dX8_between_21 : decode cX8_between 21 = .ok (.iload_n 1, 1) := by decide +kernel
theorem dX8_between_22 : decode cX8_between 22 = .ok (.if_icmp .ne 14, 3) := by decide +kernel
theorem dX8_between_25 : decode cX8_between 25 = .ok (.aload_n 0, 1) := by decide +kernel
theorem dX8_between_26 : decode cX8_between 26 = .ok (.getfield 23, 3) := by decide +kernel
theorem dX8_between_29 : decode cX8_between 29 = .ok (.iload 4, 2) := by decide +kernel
theorem dX8_between_31 : decode cX8_between 31 = .ok (.iaload, 1) := by decide +kernel
theorem dX8_between_32 : decode cX8_between 32 = .ok (.iload_n 2, 1) := by decide +kernel
theorem dX8_between_33 : decode cX8_between 33 = .ok (.if_icmp .eq 25, 3) := by decide +kernel
theorem dX8_between_36 : decode cX8_between 36 = .ok (.aload_n 0, 1) := by decide +kernel
theorem dX8_between_37 : decode cX8_between 37 = .ok (.getfield 20, 3) := by decide +kernel
theorem dX8_between_40 : decode cX8_between 40 = .ok (.iload 4, 2) := by decide +kernel
theorem dX8_between_42 : decode cX8_between 42 = .ok (.iaload, 1) := by decide +kernel
theorem dX8_between_43 : decode cX8_between 43 = .ok (.iload_n 2, 1) := by decide +kernel
theorem dX8_between_44 : decode cX8_between 44 = .ok (.if_icmp .ne 19, 3) := by decide +kernel
theorem dX8_between_47 : decode cX8_between 47 = .ok (.aload_n 0, 1) := by decide +kernel
theorem dX8_between_48 : decode cX8_between 48 = .ok (.getfield 23, 3) := by decide +kernel
theorem dX8_between_51 : decode cX8_between 51 = .ok (.iload 4, 2) := by decide +kernel
theorem dX8_between_53 : decode cX8_between 53 = .ok (.iaload, 1) := by decide +kernel
theorem dX8_between_54 : decode cX8_between 54 = .ok (.iload_n 1, 1) := by decide +kernel
theorem dX8_between_55 : decode cX8_between 55 = .ok (.if_icmp .ne 8, 3) := by decide +kernel
theorem dX8_between_58 : decode cX8_between 58 = .ok (.iload 4, 2) := by decide +kernel
theorem dX8_between_60 : decode cX8_between 60 = .ok (.goto 4, 3) := by decide +kernel
theorem dX8_between_63 : decode cX8_between 63 = .ok (.iload_n 3, 1) := by decide +kernel
theorem dX8_between_64 : decode cX8_between 64 = .ok (.istore_n 3, 1) := by decide +kernel
theorem dX8_between_65 : decode cX8_between 65 = .ok (.iinc 4 1, 3) := by decide +kernel
theorem dX8_between_68 : decode cX8_between 68 = .ok (.goto (-63), 3) := by decide +kernel
theorem dX8_between_71 : decode cX8_between 71 = .ok (.iload_n 3, 1) := by decide +kernel
theorem dX8_between_72 : decode cX8_between 72 = .ok (.ireturn, 1) := by decide +kernel
def f_X8_between (N : Nat) (x1 : Int32) (x2 : Int32) (M : Mem) : Option (Int32) := lp (fun (k5 : (Int32 × Int32) → Option (Int32)) (a5 : Int32 × Int32) => if (M.1 0 1) ≤ a5.2 then (some a5.1) else (ck (inb a5.2 10) (jn (fun (a64 : Int32) => nm (a5.2 + (1 : Int32)) (fun v1 => k5 (a64, v1))) (fun (k64 : Int32 → Option (Int32)) => jn (fun (a58 : Unit) => k64 a5.2) (fun (k58 : Unit → Option (Int32)) => jn (fun (a36 : Unit) => ck (inb a5.2 10) (jn (fun (a63 : Unit) => k64 a5.1) (fun (k63 : Unit → Option (Int32)) => if (M.1 3 a5.2.toNatClampNeg) = x2 then (ck (inb a5.2 10) (if (M.1 4 a5.2.toNatClampNeg) = x1 then (k58 ()) else (k63 ()))) else (k63 ())))) (fun (k36 : Unit → Option (Int32)) => if (M.1 3 a5.2.toNatClampNeg) = x1 then (ck (inb a5.2 10) (if (M.1 4 a5.2.toNatClampNeg) = x2 then (k58 ()) else (k36 ()))) else (k36 ()))))))) N ((-1 : Int32), (0 : Int32))
set_option maxRecDepth 100000 in
set_option maxHeartbeats 4000000 in
theorem c_X8_between {l : Launch} {D : va_G} {ac : Nat → ClassId} {A : Nat → Prop} {ad : Nat → Nat} {rest : va_W} (N : Nat) (x1 : Int32) (x2 : Int32)  (M : Mem) (r0 : Int32) (hf : f_X8_between N x1 x2 M = some r0) : CtI l D ac A tabM ad rest yX8_between cX8_between 5 .int 1 [.ref (ad 0), .int x1, .int x2] M r0 M := by
  refine ct_ofI (own := RX8) (by decide +kernel) rfl (Nat.le_of_ble_eq_true rfl) ?_
  intro p e s m args below meth c C
  unfold f_X8_between at hf
  refine a_L (L' := [(0, .ref (ad 0)), (1, .int x1), (2, .int x2)]) rfl ?_
  refine a_iconst (pc := 0) (v := (-1)) C dX8_between_0 (by decide) ?_
  refine a_istore_n (pc := 1) [(3, .int (-1 : Int32)), (0, .ref (ad 0)), (1, .int x1), (2, .int x2)] C dX8_between_1 (by decide) rfl ?_
  refine a_iconst (pc := 2) (v := 0) C dX8_between_2 (by decide) ?_
  refine a_istore (pc := 3) [(4, .int (0 : Int32)), (3, .int (-1 : Int32)), (0, .ref (ad 0)), (1, .int x1), (2, .int x2)] C dX8_between_3 (by decide) rfl ?_
  refine a_sub [2, 3, 4, 1, 0] rfl ?_
  refine a_lp 5 (fun a5 : Int32 × Int32 => [(0, .ref (ad 0)), (1, .int x1), (2, .int x2), (3, .int a5.1), (4, .int a5.2)]) (fun a5 : Int32 × Int32 => []) (fun a5 : Int32 × Int32 => M) (fun k5 a5 hk5 hf => ?_) N ((-1 : Int32), (0 : Int32)) hf
  refine a_iload (pc := 5) C dX8_between_5 4 rfl ?_
  refine a_aload_n (pc := 7) C dX8_between_7 0 rfl ?_
  refine a_getI (pc := 8) C dX8_between_8 fl_X8_102 tm_0 rfl ?_
  refine a_icmp_ge (pc := 11) 71 C dX8_between_11 (by decide) hf (fun hf => ?_) (fun hf => ?_)
  · refine a_iload_n (pc := 71) C dX8_between_71 3 rfl ?_
    exact a_iret (pc := 72) C dX8_between_72 (Option.some.inj hf) rfl
  · refine a_aload_n (pc := 14) C dX8_between_14 0 rfl ?_
    refine a_getR (pc := 15) C dX8_between_15 fl_X8_20 tm_0 rfl ?_
    refine a_iload (pc := 18) C dX8_between_18 4 rfl ?_
    refine a_iald (pc := 20) C dX8_between_20 tm_3 hf (fun hf => ?_)
    refine a_iload_n (pc := 21) C dX8_between_21 1 rfl ?_
    refine a_jn 64 (fun a64 : Int32 => [(0, .ref (ad 0)), (1, .int x1), (2, .int x2), (4, .int a5.2)]) (fun a64 : Int32 => [.int a64]) (fun a64 : Int32 => M) hf (fun a64 hf => ?_) (fun k64 hk64 hf => ?_)
    · refine a_istore_n (pc := 64) [(3, .int a64), (0, .ref (ad 0)), (1, .int x1), (2, .int x2), (4, .int a5.2)] C dX8_between_64 (by decide) rfl ?_
      refine a_iinc (pc := 65) (v := 1) (fun v1 => [(4, .int v1), (3, .int a64), (0, .ref (ad 0)), (1, .int x1), (2, .int x2)]) C dX8_between_65 4 rfl (by decide) (by decide) (fun _ => rfl) hf (fun v1 hf => ?_)
      refine a_goto (pc := 68) 5 C dX8_between_68 (by decide) ?_
      exact a_sub [2, 3, 4, 1, 0] rfl (hk5 (a64, v1) hf)
    · refine a_jn 58 (fun a58 : Unit => [(0, .ref (ad 0)), (1, .int x1), (2, .int x2), (4, .int a5.2)]) (fun a58 : Unit => []) (fun a58 : Unit => M) hf (fun a58 hf => ?_) (fun k58 hk58 hf => ?_)
      · refine a_iload (pc := 58) C dX8_between_58 3 rfl ?_
        refine a_goto (pc := 60) 64 C dX8_between_60 (by decide) ?_
        exact a_sub [0, 1, 2, 3] rfl (hk64 a5.2 hf)
      · refine a_jn 36 (fun a36 : Unit => [(0, .ref (ad 0)), (1, .int x1), (2, .int x2), (3, .int a5.1), (4, .int a5.2)]) (fun a36 : Unit => []) (fun a36 : Unit => M) hf (fun a36 hf => ?_) (fun k36 hk36 hf => ?_)
        · refine a_aload_n (pc := 36) C dX8_between_36 0 rfl ?_
          refine a_getR (pc := 37) C dX8_between_37 fl_X8_20 tm_0 rfl ?_
          refine a_iload (pc := 40) C dX8_between_40 4 rfl ?_
          refine a_iald (pc := 42) C dX8_between_42 tm_3 hf (fun hf => ?_)
          refine a_iload_n (pc := 43) C dX8_between_43 2 rfl ?_
          refine a_jn 63 (fun a63 : Unit => [(0, .ref (ad 0)), (1, .int x1), (2, .int x2), (3, .int a5.1), (4, .int a5.2)]) (fun a63 : Unit => []) (fun a63 : Unit => M) hf (fun a63 hf => ?_) (fun k63 hk63 hf => ?_)
          · refine a_iload_n (pc := 63) C dX8_between_63 3 rfl ?_
            exact a_sub [0, 1, 2, 4] rfl (hk64 a5.1 hf)
          · refine a_icmp_ne (pc := 44) 63 C dX8_between_44 (by decide) hf (fun hf => ?_) (fun hf => ?_)
            · exact a_sub [0, 1, 2, 3, 4] rfl (hk63 () hf)
            · refine a_aload_n (pc := 47) C dX8_between_47 0 rfl ?_
              refine a_getR (pc := 48) C dX8_between_48 fl_X8_23 tm_0 rfl ?_
              refine a_iload (pc := 51) C dX8_between_51 4 rfl ?_
              refine a_iald (pc := 53) C dX8_between_53 tm_4 hf (fun hf => ?_)
              refine a_iload_n (pc := 54) C dX8_between_54 1 rfl ?_
              refine a_icmp_ne (pc := 55) 63 C dX8_between_55 (by decide) hf (fun hf => ?_) (fun hf => ?_)
              · exact a_sub [0, 1, 2, 3, 4] rfl (hk63 () hf)
              · exact a_sub [0, 1, 2, 4] rfl (hk58 () hf)
        · refine a_icmp_ne (pc := 22) 36 C dX8_between_22 (by decide) hf (fun hf => ?_) (fun hf => ?_)
          · exact a_sub [0, 1, 2, 3, 4] rfl (hk36 () hf)
          · refine a_aload_n (pc := 25) C dX8_between_25 0 rfl ?_
            refine a_getR (pc := 26) C dX8_between_26 fl_X8_23 tm_0 rfl ?_
            refine a_iload (pc := 29) C dX8_between_29 4 rfl ?_
            refine a_iald (pc := 31) C dX8_between_31 tm_4 hf (fun hf => ?_)
            refine a_iload_n (pc := 32) C dX8_between_32 2 rfl ?_
            refine a_icmp_eq (pc := 33) 58 C dX8_between_33 (by decide) hf (fun hf => ?_) (fun hf => ?_)
            · exact a_sub [0, 1, 2, 4] rfl (hk58 () hf)
            · exact a_sub [0, 1, 2, 3, 4] rfl (hk36 () hf)
theorem dX8_pointsCome_0 : decode cX8_pointsCome 0 = .ok (.iconst 0, 1) := by decide +kernel
theorem dX8_pointsCome_1 : decode cX8_pointsCome 1 = .ok (.istore_n 2, 1) := by decide +kernel
theorem dX8_pointsCome_2 : decode cX8_pointsCome 2 = .ok (.iload_n 2, 1) := by decide +kernel
theorem dX8_pointsCome_3 : decode cX8_pointsCome 3 = .ok (.iload_n 1, 1) := by decide +kernel
theorem dX8_pointsCome_4 : decode cX8_pointsCome 4 = .ok (.if_icmp .ge 31, 3) := by decide +kernel
theorem dX8_pointsCome_7 : decode cX8_pointsCome 7 = .ok (.aload_n 0, 1) := by decide +kernel
theorem dX8_pointsCome_8 : decode cX8_pointsCome 8 = .ok (.getfield 28, 3) := by decide +kernel
theorem dX8_pointsCome_11 : decode cX8_pointsCome 11 = .ok (.aload_n 0, 1) := by decide +kernel
theorem dX8_pointsCome_12 : decode cX8_pointsCome 12 = .ok (.getfield 95, 3) := by decide +kernel
theorem dX8_pointsCome_15 : decode cX8_pointsCome 15 = .ok (.ldc2_w 26, 3) := by decide +kernel
theorem dX8_pointsCome_18 : decode cX8_pointsCome 18 = .ok (.lastore, 1) := by decide +kernel
theorem dX8_pointsCome_19 : decode cX8_pointsCome 19 = .ok (.aload_n 0, 1) := by decide +kernel
theorem dX8_pointsCome_20 : decode cX8_pointsCome 20 = .ok (.dup, 1) := by decide +kernel
theorem dX8_pointsCome_21 : decode cX8_pointsCome 21 = .ok (.getfield 95, 3) := by decide +kernel
theorem dX8_pointsCome_24 : decode cX8_pointsCome 24 = .ok (.iconst 1, 1) := by decide +kernel
theorem dX8_pointsCome_25 : decode cX8_pointsCome 25 = .ok (.iadd, 1) := by decide +kernel
theorem dX8_pointsCome_26 : decode cX8_pointsCome 26 = .ok (.putfield 95, 3) := by decide +kernel
theorem dX8_pointsCome_29 : decode cX8_pointsCome 29 = .ok (.iinc 2 1, 3) := by decide +kernel
theorem dX8_pointsCome_32 : decode cX8_pointsCome 32 = .ok (.goto (-30), 3) := by decide +kernel
theorem dX8_pointsCome_35 : decode cX8_pointsCome 35 = .ok (.return_, 1) := by decide +kernel
def f_X8_pointsCome (N : Nat) (x1 : Int32) (M : Mem) : Option (Mem) := lp (fun (k2 : (Int32 × Mem) → Option (Mem)) (a2 : Int32 × Mem) => if x1 ≤ a2.1 then (some a2.2) else (ck (inb (a2.2.1 0 0) 6) (nm (setJ a2.2 5 (a2.2.1 0 0).toNatClampNeg (1099511627775 : Int64)) (fun M1 => nm (setI M1 0 0 ((M1.1 0 0) + (1 : Int32))) (fun M2 => nm (a2.1 + (1 : Int32)) (fun v3 => k2 (v3, M2))))))) N ((0 : Int32), M)
set_option maxRecDepth 100000 in
set_option maxHeartbeats 4000000 in
theorem c_X8_pointsCome {l : Launch} {D : va_G} {ac : Nat → ClassId} {A : Nat → Prop} {ad : Nat → Nat} {rest : va_W} (N : Nat) (x1 : Int32)  (M : Mem)  (M0 : Mem) (hf : f_X8_pointsCome N x1 M = some M0) : CtV l D ac A tabM ad rest yX8_pointsCome cX8_pointsCome 3  1 [.ref (ad 0), .int x1] M  M0 := by
  refine ct_ofV (own := RX8) (by decide +kernel) rfl (Nat.le_of_ble_eq_true rfl) ?_
  intro p e s m args below meth c C
  unfold f_X8_pointsCome at hf
  refine a_L (L' := [(0, .ref (ad 0)), (1, .int x1)]) rfl ?_
  refine a_iconst (pc := 0) (v := 0) C dX8_pointsCome_0 (by decide) ?_
  refine a_istore_n (pc := 1) [(2, .int (0 : Int32)), (0, .ref (ad 0)), (1, .int x1)] C dX8_pointsCome_1 (by decide) rfl ?_
  refine a_sub [1, 2, 0] rfl ?_
  refine a_lp 2 (fun a2 : Int32 × Mem => [(0, .ref (ad 0)), (1, .int x1), (2, .int a2.1)]) (fun a2 : Int32 × Mem => []) (fun a2 : Int32 × Mem => a2.2) (fun k2 a2 hk2 hf => ?_) N ((0 : Int32), M) hf
  refine a_iload_n (pc := 2) C dX8_pointsCome_2 2 rfl ?_
  refine a_iload_n (pc := 3) C dX8_pointsCome_3 1 rfl ?_
  refine a_icmp_ge (pc := 4) 35 C dX8_pointsCome_4 (by decide) hf (fun hf => ?_) (fun hf => ?_)
  · exact a_vret (pc := 35) C dX8_pointsCome_35 (Option.some.inj hf)
  · refine a_aload_n (pc := 7) C dX8_pointsCome_7 0 rfl ?_
    refine a_getR (pc := 8) C dX8_pointsCome_8 fl_X8_28 tm_0 rfl ?_
    refine a_aload_n (pc := 11) C dX8_pointsCome_11 0 rfl ?_
    refine a_getI (pc := 12) C dX8_pointsCome_12 fl_X8_95 tm_0 rfl ?_
    refine a_ldc2 (pc := 15) C dX8_pointsCome_15 cj_X8_26 ?_
    refine a_last (pc := 18) C dX8_pointsCome_18 tm_5 hf (fun M1 hf => ?_)
    refine a_aload_n (pc := 19) C dX8_pointsCome_19 0 rfl ?_
    refine a_dup (pc := 20) C dX8_pointsCome_20 rfl ?_
    refine a_getI (pc := 21) C dX8_pointsCome_21 fl_X8_95 tm_0 rfl ?_
    refine a_iconst (pc := 24) (v := 1) C dX8_pointsCome_24 (by decide) ?_
    refine a_iadd (pc := 25) C dX8_pointsCome_25 ?_
    refine a_putI (pc := 26) C dX8_pointsCome_26 fl_X8_95 tm_0 rfl hf (fun M2 hf => ?_)
    refine a_iinc (pc := 29) (v := 1) (fun v3 => [(2, .int v3), (0, .ref (ad 0)), (1, .int x1)]) C dX8_pointsCome_29 2 rfl (by decide) (by decide) (fun _ => rfl) hf (fun v3 hf => ?_)
    refine a_goto (pc := 32) 2 C dX8_pointsCome_32 (by decide) ?_
    exact a_sub [1, 2, 0] rfl (hk2 (v3, M2) hf)
theorem dX8_lineComes_0 : decode cX8_lineComes 0 = .ok (.aload_n 0, 1) := by decide +kernel
theorem dX8_lineComes_1 : decode cX8_lineComes 1 = .ok (.getfield 13, 3) := by decide +kernel
theorem dX8_lineComes_4 : decode cX8_lineComes 4 = .ok (.aload_n 0, 1) := by decide +kernel
theorem dX8_lineComes_5 : decode cX8_lineComes 5 = .ok (.getfield 102, 3) := by decide +kernel
theorem dX8_lineComes_8 : decode cX8_lineComes 8 = .ok (.iload_n 1, 1) := by decide +kernel
theorem dX8_lineComes_9 : decode cX8_lineComes 9 = .ok (.iastore, 1) := by decide +kernel
theorem dX8_lineComes_10 : decode cX8_lineComes 10 = .ok (.aload_n 0, 1) := by decide +kernel
theorem dX8_lineComes_11 : decode cX8_lineComes 11 = .ok (.getfield 17, 3) := by decide +kernel
theorem dX8_lineComes_14 : decode cX8_lineComes 14 = .ok (.aload_n 0, 1) := by decide +kernel
theorem dX8_lineComes_15 : decode cX8_lineComes 15 = .ok (.getfield 102, 3) := by decide +kernel
theorem dX8_lineComes_18 : decode cX8_lineComes 18 = .ok (.iload_n 2, 1) := by decide +kernel
theorem dX8_lineComes_19 : decode cX8_lineComes 19 = .ok (.iastore, 1) := by decide +kernel
theorem dX8_lineComes_20 : decode cX8_lineComes 20 = .ok (.aload_n 0, 1) := by decide +kernel
theorem dX8_lineComes_21 : decode cX8_lineComes 21 = .ok (.getfield 20, 3) := by decide +kernel
theorem dX8_lineComes_24 : decode cX8_lineComes 24 = .ok (.aload_n 0, 1) := by decide +kernel
theorem dX8_lineComes_25 : decode cX8_lineComes 25 = .ok (.getfield 102, 3) := by decide +kernel
theorem dX8_lineComes_28 : decode cX8_lineComes 28 = .ok (.iload_n 3, 1) := by decide +kernel
theorem dX8_lineComes_29 : decode cX8_lineComes 29 = .ok (.iload 4, 2) := by decide +kernel
theorem dX8_lineComes_31 : decode cX8_lineComes 31 = .ok (.if_icmp .ge 7, 3) := by decide +kernel
theorem dX8_lineComes_34 : decode cX8_lineComes 34 = .ok (.iload_n 3, 1) := by decide +kernel
theorem dX8_lineComes_35 : decode cX8_lineComes 35 = .ok (.goto 5, 3) := by decide +kernel
theorem dX8_lineComes_38 : decode cX8_lineComes 38 = .ok (.iload 4, 2) := by decide +kernel
theorem dX8_lineComes_40 : decode cX8_lineComes 40 = .ok (.iastore, 1) := by decide +kernel
theorem dX8_lineComes_41 : decode cX8_lineComes 41 = .ok (.aload_n 0, 1) := by decide +kernel
theorem dX8_lineComes_42 : decode cX8_lineComes 42 = .ok (.getfield 23, 3) := by decide +kernel
theorem dX8_lineComes_45 : decode cX8_lineComes 45 = .ok (.aload_n 0, 1) := by decide +kernel
theorem dX8_lineComes_46 : decode cX8_lineComes 46 = .ok (.getfield 102, 3) := by decide +kernel
theorem dX8_lineComes_49 : decode cX8_lineComes 49 = .ok (.iload_n 3, 1) := by decide +kernel
theorem dX8_lineComes_50 : decode cX8_lineComes 50 = .ok (.iload 4, 2) := by decide +kernel
theorem dX8_lineComes_52 : decode cX8_lineComes 52 = .ok (.if_icmp .ge 8, 3) := by decide +kernel
theorem dX8_lineComes_55 : decode cX8_lineComes 55 = .ok (.iload 4, 2) := by decide +kernel
theorem dX8_lineComes_57 : decode cX8_lineComes 57 = .ok (.goto 4, 3) := by decide +kernel
theorem dX8_lineComes_60 : decode cX8_lineComes 60 = .ok (.iload_n 3, 1) := by decide +kernel
theorem dX8_lineComes_61 : decode cX8_lineComes 61 = .ok (.iastore, 1) := by decide +kernel
theorem dX8_lineComes_62 : decode cX8_lineComes 62 = .ok (.aload_n 0, 1) := by decide +kernel
theorem dX8_lineComes_63 : decode cX8_lineComes 63 = .ok (.dup, 1) := by decide +kernel
theorem dX8_lineComes_64 : decode cX8_lineComes 64 = .ok (.getfield 102, 3) := by decide +kernel
theorem dX8_lineComes_67 : decode cX8_lineComes 67 = .ok (.iconst 1, 1) := by decide +kernel
theorem dX8_lineComes_68 : decode cX8_lineComes 68 = .ok (.iadd, 1) := by decide +kernel
theorem dX8_lineComes_69 : decode cX8_lineComes 69 = .ok (.putfield 102, 3) := by decide +kernel
theorem dX8_lineComes_72 : decode cX8_lineComes 72 = .ok (.return_, 1) := by decide +kernel
def f_X8_lineComes (N : Nat) (x1 : Int32) (x2 : Int32) (x3 : Int32) (x4 : Int32) (M : Mem) : Option (Mem) := ck (inb (M.1 0 1) 10) (nm (setI M 1 (M.1 0 1).toNatClampNeg x1) (fun M1 => ck (inb (M1.1 0 1) 10) (nm (setI M1 2 (M1.1 0 1).toNatClampNeg x2) (fun M2 => jn (fun (a40 : Int32) => ck (inb (M2.1 0 1) 10) (nm (setI M2 3 (M2.1 0 1).toNatClampNeg a40) (fun M3 => jn (fun (a61 : Int32) => ck (inb (M3.1 0 1) 10) (nm (setI M3 4 (M3.1 0 1).toNatClampNeg a61) (fun M4 => nm (setI M4 0 1 ((M4.1 0 1) + (1 : Int32))) (fun M5 => some M5)))) (fun (k61 : Int32 → Option (Mem)) => if x4 ≤ x3 then (k61 x3) else (k61 x4))))) (fun (k40 : Int32 → Option (Mem)) => if x4 ≤ x3 then (k40 x4) else (k40 x3))))))
set_option maxRecDepth 100000 in
set_option maxHeartbeats 4000000 in
theorem c_X8_lineComes {l : Launch} {D : va_G} {ac : Nat → ClassId} {A : Nat → Prop} {ad : Nat → Nat} {rest : va_W} (N : Nat) (x1 : Int32) (x2 : Int32) (x3 : Int32) (x4 : Int32)  (M : Mem)  (M0 : Mem) (hf : f_X8_lineComes N x1 x2 x3 x4 M = some M0) : CtV l D ac A tabM ad rest yX8_lineComes cX8_lineComes 5  1 [.ref (ad 0), .int x1, .int x2, .int x3, .int x4] M  M0 := by
  refine ct_ofV (own := RX8) (by decide +kernel) rfl (Nat.le_of_ble_eq_true rfl) ?_
  intro p e s m args below meth c C
  unfold f_X8_lineComes at hf
  refine a_L (L' := [(0, .ref (ad 0)), (1, .int x1), (2, .int x2), (3, .int x3), (4, .int x4)]) rfl ?_
  refine a_aload_n (pc := 0) C dX8_lineComes_0 0 rfl ?_
  refine a_getR (pc := 1) C dX8_lineComes_1 fl_X8_13 tm_0 rfl ?_
  refine a_aload_n (pc := 4) C dX8_lineComes_4 0 rfl ?_
  refine a_getI (pc := 5) C dX8_lineComes_5 fl_X8_102 tm_0 rfl ?_
  refine a_iload_n (pc := 8) C dX8_lineComes_8 1 rfl ?_
  refine a_iast (pc := 9) C dX8_lineComes_9 tm_1 hf (fun M1 hf => ?_)
  refine a_aload_n (pc := 10) C dX8_lineComes_10 0 rfl ?_
  refine a_getR (pc := 11) C dX8_lineComes_11 fl_X8_17 tm_0 rfl ?_
  refine a_aload_n (pc := 14) C dX8_lineComes_14 0 rfl ?_
  refine a_getI (pc := 15) C dX8_lineComes_15 fl_X8_102 tm_0 rfl ?_
  refine a_iload_n (pc := 18) C dX8_lineComes_18 2 rfl ?_
  refine a_iast (pc := 19) C dX8_lineComes_19 tm_2 hf (fun M2 hf => ?_)
  refine a_aload_n (pc := 20) C dX8_lineComes_20 0 rfl ?_
  refine a_getR (pc := 21) C dX8_lineComes_21 fl_X8_20 tm_0 rfl ?_
  refine a_aload_n (pc := 24) C dX8_lineComes_24 0 rfl ?_
  refine a_getI (pc := 25) C dX8_lineComes_25 fl_X8_102 tm_0 rfl ?_
  refine a_iload_n (pc := 28) C dX8_lineComes_28 3 rfl ?_
  refine a_iload (pc := 29) C dX8_lineComes_29 4 rfl ?_
  refine a_jn 40 (fun a40 : Int32 => [(0, .ref (ad 0)), (3, .int x3), (4, .int x4)]) (fun a40 : Int32 => [.int a40, .int (M2.1 0 1), .ref (ad 3)]) (fun a40 : Int32 => M2) hf (fun a40 hf => ?_) (fun k40 hk40 hf => ?_)
  · refine a_iast (pc := 40) C dX8_lineComes_40 tm_3 hf (fun M3 hf => ?_)
    refine a_aload_n (pc := 41) C dX8_lineComes_41 0 rfl ?_
    refine a_getR (pc := 42) C dX8_lineComes_42 fl_X8_23 tm_0 rfl ?_
    refine a_aload_n (pc := 45) C dX8_lineComes_45 0 rfl ?_
    refine a_getI (pc := 46) C dX8_lineComes_46 fl_X8_102 tm_0 rfl ?_
    refine a_iload_n (pc := 49) C dX8_lineComes_49 1 rfl ?_
    refine a_iload (pc := 50) C dX8_lineComes_50 2 rfl ?_
    refine a_jn 61 (fun a61 : Int32 => [(0, .ref (ad 0))]) (fun a61 : Int32 => [.int a61, .int (M3.1 0 1), .ref (ad 4)]) (fun a61 : Int32 => M3) hf (fun a61 hf => ?_) (fun k61 hk61 hf => ?_)
    · refine a_iast (pc := 61) C dX8_lineComes_61 tm_4 hf (fun M4 hf => ?_)
      refine a_aload_n (pc := 62) C dX8_lineComes_62 0 rfl ?_
      refine a_dup (pc := 63) C dX8_lineComes_63 rfl ?_
      refine a_getI (pc := 64) C dX8_lineComes_64 fl_X8_102 tm_0 rfl ?_
      refine a_iconst (pc := 67) (v := 1) C dX8_lineComes_67 (by decide) ?_
      refine a_iadd (pc := 68) C dX8_lineComes_68 ?_
      refine a_putI (pc := 69) C dX8_lineComes_69 fl_X8_102 tm_0 rfl hf (fun M5 hf => ?_)
      exact a_vret (pc := 72) C dX8_lineComes_72 (Option.some.inj hf)
    · refine a_icmp_ge (pc := 52) 60 C dX8_lineComes_52 (by decide) hf (fun hf => ?_) (fun hf => ?_)
      · refine a_iload_n (pc := 60) C dX8_lineComes_60 1 rfl ?_
        exact a_sub [0] rfl (hk61 x3 hf)
      · refine a_iload (pc := 55) C dX8_lineComes_55 2 rfl ?_
        refine a_goto (pc := 57) 61 C dX8_lineComes_57 (by decide) ?_
        exact a_sub [0] rfl (hk61 x4 hf)
  · refine a_icmp_ge (pc := 31) 38 C dX8_lineComes_31 (by decide) hf (fun hf => ?_) (fun hf => ?_)
    · refine a_iload (pc := 38) C dX8_lineComes_38 4 rfl ?_
      exact a_sub [0, 3, 4] rfl (hk40 x4 hf)
    · refine a_iload_n (pc := 34) C dX8_lineComes_34 3 rfl ?_
      refine a_goto (pc := 35) 40 C dX8_lineComes_35 (by decide) ?_
      exact a_sub [0, 3, 4] rfl (hk40 x3 hf)
theorem dX8_apart_0 : decode cX8_apart 0 = .ok (.lconst 0, 1) := by decide +kernel
theorem dX8_apart_1 : decode cX8_apart 1 = .ok (.lstore_n 3, 1) := by decide +kernel
theorem dX8_apart_2 : decode cX8_apart 2 = .ok (.iconst 0, 1) := by decide +kernel
theorem dX8_apart_3 : decode cX8_apart 3 = .ok (.istore 5, 2) := by decide +kernel
theorem dX8_apart_5 : decode cX8_apart 5 = .ok (.iload 5, 2) := by decide +kernel
theorem dX8_apart_7 : decode cX8_apart 7 = .ok (.aload_n 0, 1) := by decide +kernel
theorem dX8_apart_8 : decode cX8_apart 8 = .ok (.getfield 148, 3) := by decide +kernel
theorem dX8_apart_11 : decode cX8_apart 11 = .ok (.if_icmp .ge 56, 3) := by decide +kernel
theorem dX8_apart_14 : decode cX8_apart 14 = .ok (.iload_n 1, 1) := by decide +kernel
theorem dX8_apart_15 : decode cX8_apart 15 = .ok (.iload 5, 2) := by decide +kernel
theorem dX8_apart_17 : decode cX8_apart 17 = .ok (.if_icmp .ge 10, 3) := by decide +kernel
theorem dX8_apart_20 : decode cX8_apart 20 = .ok (.iload 5, 2) := by decide +kernel
theorem dX8_apart_22 : decode cX8_apart 22 = .ok (.iload_n 1, 1) := by decide +kernel
theorem dX8_apart_23 : decode cX8_apart 23 = .ok (.isub, 1) := by decide +kernel
theorem dX8_apart_24 : decode cX8_apart 24 = .ok (.goto 7, 3) := by decide +kernel
theorem dX8_apart_27 : decode cX8_apart 27 = .ok (.iload_n 1, 1) := by decide +kernel
theorem dX8_apart_28 : decode cX8_apart 28 = .ok (.iload 5, 2) := by decide +kernel
theorem dX8_apart_30 : decode cX8_apart 30 = .ok (.isub, 1) := by decide +kernel
theorem dX8_apart_31 : decode cX8_apart 31 = .ok (.istore 6, 2) := by decide +kernel
theorem dX8_apart_33 : decode cX8_apart 33 = .ok (.lload_n 3, 1) := by decide +kernel
theorem dX8_apart_34 : decode cX8_apart 34 = .ok (.iload 6, 2) := by decide +kernel
theorem dX8_apart_36 : decode cX8_apart 36 = .ok (.iload_n 2, 1) := by decide +kernel
theorem dX8_apart_37 : decode cX8_apart 37 = .ok (.if_icmp .lt 21, 3) := by decide +kernel
theorem dX8_apart_40 : decode cX8_apart 40 = .ok (.aload_n 0, 1) := by decide +kernel
theorem dX8_apart_41 : decode cX8_apart 41 = .ok (.getfield 148, 3) := by decide +kernel
theorem dX8_apart_44 : decode cX8_apart 44 = .ok (.iload 6, 2) := by decide +kernel
theorem dX8_apart_46 : decode cX8_apart 46 = .ok (.isub, 1) := by decide +kernel
theorem dX8_apart_47 : decode cX8_apart 47 = .ok (.iload_n 2, 1) := by decide +kernel
theorem dX8_apart_48 : decode cX8_apart 48 = .ok (.if_icmp .lt 10, 3) := by decide +kernel
theorem dX8_apart_51 : decode cX8_apart 51 = .ok (.lconst 1, 1) := by decide +kernel
theorem dX8_apart_52 : decode cX8_apart 52 = .ok (.iload 5, 2) := by decide +kernel
theorem dX8_apart_54 : decode cX8_apart 54 = .ok (.lshl, 1) := by decide +kernel
theorem dX8_apart_55 : decode cX8_apart 55 = .ok (.goto 4, 3) := by decide +kernel
theorem dX8_apart_58 : decode cX8_apart 58 = .ok (.lconst 0, 1) := by decide +kernel
theorem dX8_apart_59 : decode cX8_apart 59 = .ok (.lor, 1) := by decide +kernel
theorem dX8_apart_60 : decode cX8_apart 60 = .ok (.lstore_n 3, 1) := by decide +kernel
theorem dX8_apart_61 : decode cX8_apart 61 = .ok (.iinc 5 1, 3) := by decide +kernel
theorem dX8_apart_64 : decode cX8_apart 64 = .ok (.goto (-59), 3) := by decide +kernel
theorem dX8_apart_67 : decode cX8_apart 67 = .ok (.lload_n 3, 1) := by decide +kernel
theorem dX8_apart_68 : decode cX8_apart 68 = .ok (.lreturn, 1) := by decide +kernel
def f_X8_apart (N : Nat) (x1 : Int32) (x2 : Int32) (M : Mem) : Option (Int64) := lp (fun (k5 : (Int64 × Int32) → Option (Int64)) (a5 : Int64 × Int32) => if (M.1 0 12) ≤ a5.2 then (some a5.1) else (jn (fun (a31 : Int32) => jn (fun (a59 : Int64) => nm (a5.1 ||| a59) (fun v1 => nm (a5.2 + (1 : Int32)) (fun v2 => k5 (v1, v2)))) (fun (k59 : Int64 → Option (Int64)) => jn (fun (a58 : Unit) => k59 (0 : Int64)) (fun (k58 : Unit → Option (Int64)) => if a31 < x2 then (k58 ()) else (if ((M.1 0 12) - a31) < x2 then (k58 ()) else (k59 ((1 : Int64) <<< (a5.2.toInt64 &&& 63))))))) (fun (k31 : Int32 → Option (Int64)) => if a5.2 ≤ x1 then (k31 (x1 - a5.2)) else (k31 (a5.2 - x1))))) N ((0 : Int64), (0 : Int32))
set_option maxRecDepth 100000 in
set_option maxHeartbeats 4000000 in
theorem c_X8_apart {l : Launch} {D : va_G} {ac : Nat → ClassId} {A : Nat → Prop} {ad : Nat → Nat} {rest : va_W} (N : Nat) (x1 : Int32) (x2 : Int32)  (M : Mem) (r0 : Int64) (hf : f_X8_apart N x1 x2 M = some r0) : CtJ l D ac A tabM ad rest yX8_apart cX8_apart 7  1 [.ref (ad 0), .int x1, .int x2] M r0 M := by
  refine ct_ofJ (own := RX8) (by decide +kernel) rfl (Nat.le_of_ble_eq_true rfl) ?_
  intro p e s m args below meth c C
  unfold f_X8_apart at hf
  refine a_L (L' := [(0, .ref (ad 0)), (1, .int x1), (2, .int x2)]) rfl ?_
  refine a_lconst (pc := 0) (v := 0) C dX8_apart_0 (by decide) ?_
  refine a_lstore_n (pc := 1) [(3, .long (0 : Int64)), (0, .ref (ad 0)), (1, .int x1), (2, .int x2)] C dX8_apart_1 (by decide) rfl ?_
  refine a_iconst (pc := 2) (v := 0) C dX8_apart_2 (by decide) ?_
  refine a_istore (pc := 3) [(5, .int (0 : Int32)), (3, .long (0 : Int64)), (0, .ref (ad 0)), (1, .int x1), (2, .int x2)] C dX8_apart_3 (by decide) rfl ?_
  refine a_sub [2, 3, 4, 1, 0] rfl ?_
  refine a_lp 5 (fun a5 : Int64 × Int32 => [(0, .ref (ad 0)), (1, .int x1), (2, .int x2), (3, .long a5.1), (5, .int a5.2)]) (fun a5 : Int64 × Int32 => []) (fun a5 : Int64 × Int32 => M) (fun k5 a5 hk5 hf => ?_) N ((0 : Int64), (0 : Int32)) hf
  refine a_iload (pc := 5) C dX8_apart_5 4 rfl ?_
  refine a_aload_n (pc := 7) C dX8_apart_7 0 rfl ?_
  refine a_getI (pc := 8) C dX8_apart_8 fl_X8_148 tm_0 rfl ?_
  refine a_icmp_ge (pc := 11) 67 C dX8_apart_11 (by decide) hf (fun hf => ?_) (fun hf => ?_)
  · refine a_lload_n (pc := 67) C dX8_apart_67 3 rfl ?_
    exact a_lret (pc := 68) C dX8_apart_68 (Option.some.inj hf) rfl
  · refine a_iload_n (pc := 14) C dX8_apart_14 1 rfl ?_
    refine a_iload (pc := 15) C dX8_apart_15 4 rfl ?_
    refine a_jn 31 (fun a31 : Int32 => [(0, .ref (ad 0)), (1, .int x1), (2, .int x2), (3, .long a5.1), (5, .int a5.2)]) (fun a31 : Int32 => [.int a31]) (fun a31 : Int32 => M) hf (fun a31 hf => ?_) (fun k31 hk31 hf => ?_)
    · refine a_istore (pc := 31) [(6, .int a31), (0, .ref (ad 0)), (1, .int x1), (2, .int x2), (3, .long a5.1), (5, .int a5.2)] C dX8_apart_31 (by decide) rfl ?_
      refine a_lload_n (pc := 33) C dX8_apart_33 4 rfl ?_
      refine a_iload (pc := 34) C dX8_apart_34 0 rfl ?_
      refine a_iload_n (pc := 36) C dX8_apart_36 3 rfl ?_
      refine a_jn 59 (fun a59 : Int64 => [(0, .ref (ad 0)), (1, .int x1), (2, .int x2), (5, .int a5.2)]) (fun a59 : Int64 => [.long a59, .long a5.1]) (fun a59 : Int64 => M) hf (fun a59 hf => ?_) (fun k59 hk59 hf => ?_)
      · refine a_lor (pc := 59) C dX8_apart_59 ?_
        refine a_nml hf (fun v1 hf => ?_)
        refine a_lstore_n (pc := 60) [(3, .long v1), (0, .ref (ad 0)), (1, .int x1), (2, .int x2), (5, .int a5.2)] C dX8_apart_60 (by decide) rfl ?_
        refine a_iinc (pc := 61) (v := 1) (fun v2 => [(5, .int v2), (3, .long v1), (0, .ref (ad 0)), (1, .int x1), (2, .int x2)]) C dX8_apart_61 4 rfl (by decide) (by decide) (fun _ => rfl) hf (fun v2 hf => ?_)
        refine a_goto (pc := 64) 5 C dX8_apart_64 (by decide) ?_
        exact a_sub [2, 3, 4, 1, 0] rfl (hk5 (v1, v2) hf)
      · refine a_jn 58 (fun a58 : Unit => [(0, .ref (ad 0)), (1, .int x1), (2, .int x2), (5, .int a5.2)]) (fun a58 : Unit => [.long a5.1]) (fun a58 : Unit => M) hf (fun a58 hf => ?_) (fun k58 hk58 hf => ?_)
        · refine a_lconst (pc := 58) (v := 0) C dX8_apart_58 (by decide) ?_
          exact a_sub [0, 1, 2, 3] rfl (hk59 (0 : Int64) hf)
        · refine a_icmp_lt (pc := 37) 58 C dX8_apart_37 (by decide) hf (fun hf => ?_) (fun hf => ?_)
          · exact a_sub [1, 2, 3, 5] rfl (hk58 () hf)
          · refine a_aload_n (pc := 40) C dX8_apart_40 1 rfl ?_
            refine a_getI (pc := 41) C dX8_apart_41 fl_X8_148 tm_0 rfl ?_
            refine a_iload (pc := 44) C dX8_apart_44 0 rfl ?_
            refine a_isub (pc := 46) C dX8_apart_46 ?_
            refine a_iload_n (pc := 47) C dX8_apart_47 3 rfl ?_
            refine a_icmp_lt (pc := 48) 58 C dX8_apart_48 (by decide) hf (fun hf => ?_) (fun hf => ?_)
            · exact a_sub [1, 2, 3, 5] rfl (hk58 () hf)
            · refine a_lconst (pc := 51) (v := 1) C dX8_apart_51 (by decide) ?_
              refine a_iload (pc := 52) C dX8_apart_52 5 rfl ?_
              refine a_lshl (pc := 54) C dX8_apart_54 ?_
              refine a_goto (pc := 55) 59 C dX8_apart_55 (by decide) ?_
              exact a_sub [1, 2, 3, 5] rfl (hk59 ((1 : Int64) <<< (a5.2.toInt64 &&& 63)) hf)
    · refine a_icmp_ge (pc := 17) 27 C dX8_apart_17 (by decide) hf (fun hf => ?_) (fun hf => ?_)
      · refine a_iload_n (pc := 27) C dX8_apart_27 1 rfl ?_
        refine a_iload (pc := 28) C dX8_apart_28 4 rfl ?_
        refine a_isub (pc := 30) C dX8_apart_30 ?_
        exact a_sub [0, 1, 2, 3, 4] rfl (hk31 (x1 - a5.2) hf)
      · refine a_iload (pc := 20) C dX8_apart_20 4 rfl ?_
        refine a_iload_n (pc := 22) C dX8_apart_22 1 rfl ?_
        refine a_isub (pc := 23) C dX8_apart_23 ?_
        refine a_goto (pc := 24) 31 C dX8_apart_24 (by decide) ?_
        exact a_sub [0, 1, 2, 3, 4] rfl (hk31 (a5.2 - x1) hf)
theorem dX8_isFar_0 : decode cX8_isFar 0 = .ok (.iload_n 1, 1) := by decide +kernel
theorem dX8_isFar_1 : decode cX8_isFar 1 = .ok (.iload_n 2, 1) := by decide +kernel
theorem dX8_isFar_2 : decode cX8_isFar 2 = .ok (.if_icmp .ge 9, 3) := by decide +kernel
theorem dX8_isFar_5 : decode cX8_isFar 5 = .ok (.iload_n 2, 1) := by decide +kernel
theorem dX8_isFar_6 : decode cX8_isFar 6 = .ok (.iload_n 1, 1) := by decide +kernel
theorem dX8_isFar_7 : decode cX8_isFar 7 = .ok (.isub, 1) := by decide +kernel
theorem dX8_isFar_8 : decode cX8_isFar 8 = .ok (.goto 6, 3) := by decide +kernel
theorem dX8_isFar_11 : decode cX8_isFar 11 = .ok (.iload_n 1, 1) := by decide +kernel
theorem dX8_isFar_12 : decode cX8_isFar 12 = .ok (.iload_n 2, 1) := by decide +kernel
theorem dX8_isFar_13 : decode cX8_isFar 13 = .ok (.isub, 1) := by decide +kernel
theorem dX8_isFar_14 : decode cX8_isFar 14 = .ok (.istore 4, 2) := by decide +kernel
theorem dX8_isFar_16 : decode cX8_isFar 16 = .ok (.iload 4, 2) := by decide +kernel
theorem dX8_isFar_18 : decode cX8_isFar 18 = .ok (.iload_n 3, 1) := by decide +kernel
theorem dX8_isFar_19 : decode cX8_isFar 19 = .ok (.if_icmp .lt 18, 3) := by decide +kernel
theorem dX8_isFar_22 : decode cX8_isFar 22 = .ok (.aload_n 0, 1) := by decide +kernel
theorem dX8_isFar_23 : decode cX8_isFar 23 = .ok (.getfield 148, 3) := by decide +kernel
theorem dX8_isFar_26 : decode cX8_isFar 26 = .ok (.iload 4, 2) := by decide +kernel
theorem dX8_isFar_28 : decode cX8_isFar 28 = .ok (.isub, 1) := by decide +kernel
theorem dX8_isFar_29 : decode cX8_isFar 29 = .ok (.iload_n 3, 1) := by decide +kernel
theorem dX8_isFar_30 : decode cX8_isFar 30 = .ok (.if_icmp .lt 7, 3) := by decide +kernel
theorem dX8_isFar_33 : decode cX8_isFar 33 = .ok (.iconst 1, 1) := by decide +kernel
theorem dX8_isFar_34 : decode cX8_isFar 34 = .ok (.goto 4, 3) := by decide +kernel
theorem dX8_isFar_37 : decode cX8_isFar 37 = .ok (.iconst 0, 1) := by decide +kernel
theorem dX8_isFar_38 : decode cX8_isFar 38 = .ok (.ireturn, 1) := by decide +kernel
def f_X8_isFar (N : Nat) (x1 : Int32) (x2 : Int32) (x3 : Int32) (M : Mem) : Option (Int32) := jn (fun (a14 : Int32) => jn (fun (a37 : Unit) => some (0 : Int32)) (fun (k37 : Unit → Option (Int32)) => if a14 < x3 then (k37 ()) else (if ((M.1 0 12) - a14) < x3 then (k37 ()) else (some (1 : Int32))))) (fun (k14 : Int32 → Option (Int32)) => if x2 ≤ x1 then (k14 (x1 - x2)) else (k14 (x2 - x1)))
set_option maxRecDepth 100000 in
set_option maxHeartbeats 4000000 in
theorem c_X8_isFar {l : Launch} {D : va_G} {ac : Nat → ClassId} {A : Nat → Prop} {ad : Nat → Nat} {rest : va_W} (N : Nat) (x1 : Int32) (x2 : Int32) (x3 : Int32)  (M : Mem) (r0 : Int32) (hf : f_X8_isFar N x1 x2 x3 M = some r0) : CtI l D ac A tabM ad rest yX8_isFar cX8_isFar 5 .boolean 1 [.ref (ad 0), .int x1, .int x2, .int x3] M r0 M := by
  refine ct_ofI (own := RX8) (by decide +kernel) rfl (Nat.le_of_ble_eq_true rfl) ?_
  intro p e s m args below meth c C
  unfold f_X8_isFar at hf
  refine a_L (L' := [(0, .ref (ad 0)), (1, .int x1), (2, .int x2), (3, .int x3)]) rfl ?_
  refine a_iload_n (pc := 0) C dX8_isFar_0 1 rfl ?_
  refine a_iload_n (pc := 1) C dX8_isFar_1 2 rfl ?_
  refine a_jn 14 (fun a14 : Int32 => [(0, .ref (ad 0)), (3, .int x3)]) (fun a14 : Int32 => [.int a14]) (fun a14 : Int32 => M) hf (fun a14 hf => ?_) (fun k14 hk14 hf => ?_)
  · refine a_istore (pc := 14) [(4, .int a14), (0, .ref (ad 0)), (3, .int x3)] C dX8_isFar_14 (by decide) rfl ?_
    refine a_iload (pc := 16) C dX8_isFar_16 0 rfl ?_
    refine a_iload_n (pc := 18) C dX8_isFar_18 2 rfl ?_
    refine a_jn 37 (fun a37 : Unit => []) (fun a37 : Unit => []) (fun a37 : Unit => M) hf (fun a37 hf => ?_) (fun k37 hk37 hf => ?_)
    · refine a_iconst (pc := 37) (v := 0) C dX8_isFar_37 (by decide) ?_
      exact a_zret (pc := 38) C dX8_isFar_38 (Or.inl rfl) (Option.some.inj hf) rfl
    · refine a_icmp_lt (pc := 19) 37 C dX8_isFar_19 (by decide) hf (fun hf => ?_) (fun hf => ?_)
      · exact a_sub [] rfl (hk37 () hf)
      · refine a_aload_n (pc := 22) C dX8_isFar_22 1 rfl ?_
        refine a_getI (pc := 23) C dX8_isFar_23 fl_X8_148 tm_0 rfl ?_
        refine a_iload (pc := 26) C dX8_isFar_26 0 rfl ?_
        refine a_isub (pc := 28) C dX8_isFar_28 ?_
        refine a_iload_n (pc := 29) C dX8_isFar_29 2 rfl ?_
        refine a_icmp_lt (pc := 30) 37 C dX8_isFar_30 (by decide) hf (fun hf => ?_) (fun hf => ?_)
        · exact a_sub [] rfl (hk37 () hf)
        · refine a_iconst (pc := 33) (v := 1) C dX8_isFar_33 (by decide) ?_
          refine a_goto (pc := 34) 38 C dX8_isFar_34 (by decide) ?_
          exact a_zret (pc := 38) C dX8_isFar_38 (Or.inr rfl) (Option.some.inj hf) rfl
  · refine a_icmp_ge (pc := 2) 11 C dX8_isFar_2 (by decide) hf (fun hf => ?_) (fun hf => ?_)
    · refine a_iload_n (pc := 11) C dX8_isFar_11 1 rfl ?_
      refine a_iload_n (pc := 12) C dX8_isFar_12 2 rfl ?_
      refine a_isub (pc := 13) C dX8_isFar_13 ?_
      exact a_sub [0, 3] rfl (hk14 (x1 - x2) hf)
    · refine a_iload_n (pc := 5) C dX8_isFar_5 2 rfl ?_
      refine a_iload_n (pc := 6) C dX8_isFar_6 1 rfl ?_
      refine a_isub (pc := 7) C dX8_isFar_7 ?_
      refine a_goto (pc := 8) 14 C dX8_isFar_8 (by decide) ?_
      exact a_sub [0, 3] rfl (hk14 (x2 - x1) hf)
theorem dX8_common_0 : decode cX8_common 0 = .ok (.iload_n 0, 1) := by decide +kernel
theorem dX8_common_1 : decode cX8_common 1 = .ok (.istore_n 2, 1) := by decide +kernel
theorem dX8_common_2 : decode cX8_common 2 = .ok (.iload_n 1, 1) := by decide +kernel
theorem dX8_common_3 : decode cX8_common 3 = .ok (.istore_n 3, 1) := by decide +kernel
theorem dX8_common_4 : decode cX8_common 4 = .ok (.iload_n 3, 1) := by decide +kernel
theorem dX8_common_5 : decode cX8_common 5 = .ok (.ifCond .eq 16, 3) := by decide +kernel
theorem dX8_common_8 : decode cX8_common 8 = .ok (.iload_n 2, 1) := by decide +kernel
theorem dX8_common_9 : decode cX8_common 9 = .ok (.iload_n 3, 1) := by decide +kernel
theorem dX8_common_10 : decode cX8_common 10 = .ok (.irem, 1) := by decide +kernel
theorem dX8_common_11 : decode cX8_common 11 = .ok (.istore 4, 2) := by decide +kernel
theorem dX8_common_13 : decode cX8_common 13 = .ok (.iload_n 3, 1) := by decide +kernel
theorem dX8_common_14 : decode cX8_common 14 = .ok (.istore_n 2, 1) := by decide +kernel
theorem dX8_common_15 : decode cX8_common 15 = .ok (.iload 4, 2) := by decide +kernel
theorem dX8_common_17 : decode cX8_common 17 = .ok (.istore_n 3, 1) := by decide +kernel
theorem dX8_common_18 : decode cX8_common 18 = .ok (.goto (-14), 3) := by decide +kernel
theorem dX8_common_21 : decode cX8_common 21 = .ok (.iload_n 2, 1) := by decide +kernel
theorem dX8_common_22 : decode cX8_common 22 = .ok (.ireturn, 1) := by decide +kernel
def f_X8_common (N : Nat) (x0 : Int32) (x1 : Int32) (M : Mem) : Option (Int32) := lp (fun (k4 : (Int32 × Int32) → Option (Int32)) (a4 : Int32 × Int32) => if a4.2 = 0 then (some a4.1) else (ck (¬ a4.2 = 0) (nm (a4.1 - a4.1 / a4.2 * a4.2) (fun v1 => k4 (a4.2, v1))))) N (x0, x1)
set_option maxRecDepth 100000 in
set_option maxHeartbeats 4000000 in
theorem c_X8_common {l : Launch} {D : va_G} {ac : Nat → ClassId} {A : Nat → Prop} {ad : Nat → Nat} {rest : va_W} (N : Nat) (x0 : Int32) (x1 : Int32)  (M : Mem) (r0 : Int32) (hf : f_X8_common N x0 x1 M = some r0) : CtI l D ac A tabM ad rest yX8_common cX8_common 5 .int 1 [.int x0, .int x1] M r0 M := by
  refine ct_ofI (own := RX8) (by decide +kernel) rfl (Nat.le_of_ble_eq_true rfl) ?_
  intro p e s m args below meth c C
  unfold f_X8_common at hf
  refine a_L (L' := [(0, .int x0), (1, .int x1)]) rfl ?_
  refine a_iload_n (pc := 0) C dX8_common_0 0 rfl ?_
  refine a_istore_n (pc := 1) [(2, .int x0), (0, .int x0), (1, .int x1)] C dX8_common_1 (by decide) rfl ?_
  refine a_iload_n (pc := 2) C dX8_common_2 2 rfl ?_
  refine a_istore_n (pc := 3) [(3, .int x1), (2, .int x0), (0, .int x0), (1, .int x1)] C dX8_common_3 (by decide) rfl ?_
  refine a_sub [1, 0] rfl ?_
  refine a_lp 4 (fun a4 : Int32 × Int32 => [(2, .int a4.1), (3, .int a4.2)]) (fun a4 : Int32 × Int32 => []) (fun a4 : Int32 × Int32 => M) (fun k4 a4 hk4 hf => ?_) N (x0, x1) hf
  refine a_iload_n (pc := 4) C dX8_common_4 1 rfl ?_
  refine a_if_eq (pc := 5) 21 C dX8_common_5 (by decide) hf (fun hf => ?_) (fun hf => ?_)
  · refine a_iload_n (pc := 21) C dX8_common_21 0 rfl ?_
    exact a_iret (pc := 22) C dX8_common_22 (Option.some.inj hf) rfl
  · refine a_iload_n (pc := 8) C dX8_common_8 0 rfl ?_
    refine a_iload_n (pc := 9) C dX8_common_9 1 rfl ?_
    refine a_irem (pc := 10) C dX8_common_10 hf (fun hf => ?_)
    refine a_nmi hf (fun v1 hf => ?_)
    refine a_istore (pc := 11) [(4, .int v1), (2, .int a4.1), (3, .int a4.2)] C dX8_common_11 (by decide) rfl ?_
    refine a_iload_n (pc := 13) C dX8_common_13 2 rfl ?_
    refine a_istore_n (pc := 14) [(2, .int a4.2), (4, .int v1), (3, .int a4.2)] C dX8_common_14 (by decide) rfl ?_
    refine a_iload (pc := 15) C dX8_common_15 1 rfl ?_
    refine a_istore_n (pc := 17) [(3, .int v1), (2, .int a4.2), (4, .int v1)] C dX8_common_17 (by decide) rfl ?_
    refine a_goto (pc := 18) 4 C dX8_common_18 (by decide) ?_
    exact a_sub [1, 0] rfl (hk4 (a4.2, v1) hf)
theorem dX8_isTurn_0 : decode cX8_isTurn 0 = .ok (.iload_n 1, 1) := by decide +kernel
theorem dX8_isTurn_1 : decode cX8_isTurn 1 = .ok (.iconst 1, 1) := by decide +kernel
theorem dX8_isTurn_2 : decode cX8_isTurn 2 = .ok (.aload_n 0, 1) := by decide +kernel
theorem dX8_isTurn_3 : decode cX8_isTurn 3 = .ok (.getfield 102, 3) := by decide +kernel
theorem dX8_isTurn_6 : decode cX8_isTurn 6 = .ok (.ishl, 1) := by decide +kernel
theorem dX8_isTurn_7 : decode cX8_isTurn 7 = .ok (.iconst 1, 1) := by decide +kernel
theorem dX8_isTurn_8 : decode cX8_isTurn 8 = .ok (.isub, 1) := by decide +kernel
theorem dX8_isTurn_9 : decode cX8_isTurn 9 = .ok (.iconst (-1), 1) := by decide +kernel
theorem dX8_isTurn_10 : decode cX8_isTurn 10 = .ok (.ixor, 1) := by decide +kernel
theorem dX8_isTurn_11 : decode cX8_isTurn 11 = .ok (.iand, 1) := by decide +kernel
theorem dX8_isTurn_12 : decode cX8_isTurn 12 = .ok (.ifCond .ne 7, 3) := by decide +kernel
theorem dX8_isTurn_15 : decode cX8_isTurn 15 = .ok (.iconst 1, 1) := by decide +kernel
theorem dX8_isTurn_16 : decode cX8_isTurn 16 = .ok (.goto 4, 3) := by decide +kernel
theorem dX8_isTurn_19 : decode cX8_isTurn 19 = .ok (.iconst 0, 1) := by decide +kernel
theorem dX8_isTurn_20 : decode cX8_isTurn 20 = .ok (.ireturn, 1) := by decide +kernel
def f_X8_isTurn (N : Nat) (x1 : Int32) (M : Mem) : Option (Int32) := if (x1 &&& ((((1 : Int32) <<< ((M.1 0 1) &&& 31)) - (1 : Int32)) ^^^ (-1 : Int32))) = 0 then (some (1 : Int32)) else (some (0 : Int32))
set_option maxRecDepth 100000 in
set_option maxHeartbeats 4000000 in
theorem c_X8_isTurn {l : Launch} {D : va_G} {ac : Nat → ClassId} {A : Nat → Prop} {ad : Nat → Nat} {rest : va_W} (N : Nat) (x1 : Int32)  (M : Mem) (r0 : Int32) (hf : f_X8_isTurn N x1 M = some r0) : CtI l D ac A tabM ad rest yX8_isTurn cX8_isTurn 2 .boolean 1 [.ref (ad 0), .int x1] M r0 M := by
  refine ct_ofI (own := RX8) (by decide +kernel) rfl (Nat.le_of_ble_eq_true rfl) ?_
  intro p e s m args below meth c C
  unfold f_X8_isTurn at hf
  refine a_L (L' := [(0, .ref (ad 0)), (1, .int x1)]) rfl ?_
  refine a_iload_n (pc := 0) C dX8_isTurn_0 1 rfl ?_
  refine a_iconst (pc := 1) (v := 1) C dX8_isTurn_1 (by decide) ?_
  refine a_aload_n (pc := 2) C dX8_isTurn_2 0 rfl ?_
  refine a_getI (pc := 3) C dX8_isTurn_3 fl_X8_102 tm_0 rfl ?_
  refine a_ishl (pc := 6) C dX8_isTurn_6 ?_
  refine a_iconst (pc := 7) (v := 1) C dX8_isTurn_7 (by decide) ?_
  refine a_isub (pc := 8) C dX8_isTurn_8 ?_
  refine a_iconst (pc := 9) (v := (-1)) C dX8_isTurn_9 (by decide) ?_
  refine a_ixor (pc := 10) C dX8_isTurn_10 ?_
  refine a_iand (pc := 11) C dX8_isTurn_11 ?_
  refine a_if_ne (pc := 12) 19 C dX8_isTurn_12 (by decide) hf (fun hf => ?_) (fun hf => ?_)
  · refine a_iconst (pc := 19) (v := 0) C dX8_isTurn_19 (by decide) ?_
    exact a_zret (pc := 20) C dX8_isTurn_20 (Or.inl rfl) (Option.some.inj hf) rfl
  · refine a_iconst (pc := 15) (v := 1) C dX8_isTurn_15 (by decide) ?_
    refine a_goto (pc := 16) 20 C dX8_isTurn_16 (by decide) ?_
    exact a_zret (pc := 20) C dX8_isTurn_20 (Or.inr rfl) (Option.some.inj hf) rfl
theorem dX8_lays_0 : decode cX8_lays 0 = .ok (.aload_n 0, 1) := by decide +kernel
theorem dX8_lays_1 : decode cX8_lays 1 = .ok (.getfield 77, 3) := by decide +kernel
theorem dX8_lays_4 : decode cX8_lays 4 = .ok (.iload_n 1, 1) := by decide +kernel
theorem dX8_lays_5 : decode cX8_lays 5 = .ok (.iconst 0, 1) := by decide +kernel
theorem dX8_lays_6 : decode cX8_lays 6 = .ok (.iastore, 1) := by decide +kernel
theorem dX8_lays_7 : decode cX8_lays 7 = .ok (.aload_n 0, 1) := by decide +kernel
theorem dX8_lays_8 : decode cX8_lays 8 = .ok (.getfield 80, 3) := by decide +kernel
theorem dX8_lays_11 : decode cX8_lays 11 = .ok (.iload_n 1, 1) := by decide +kernel
theorem dX8_lays_12 : decode cX8_lays 12 = .ok (.aload_n 0, 1) := by decide +kernel
theorem dX8_lays_13 : decode cX8_lays 13 = .ok (.getfield 95, 3) := by decide +kernel
theorem dX8_lays_16 : decode cX8_lays 16 = .ok (.iastore, 1) := by decide +kernel
theorem dX8_lays_17 : decode cX8_lays 17 = .ok (.iconst 0, 1) := by decide +kernel
theorem dX8_lays_18 : decode cX8_lays 18 = .ok (.istore_n 3, 1) := by decide +kernel
theorem dX8_lays_19 : decode cX8_lays 19 = .ok (.iload_n 3, 1) := by decide +kernel
theorem dX8_lays_20 : decode cX8_lays 20 = .ok (.bipush 40, 2) := by decide +kernel
theorem dX8_lays_22 : decode cX8_lays 22 = .ok (.if_icmp .ge 41, 3) := by decide +kernel
theorem dX8_lays_25 : decode cX8_lays 25 = .ok (.aload_n 0, 1) := by decide +kernel
theorem dX8_lays_26 : decode cX8_lays 26 = .ok (.getfield 83, 3) := by decide +kernel
theorem dX8_lays_29 : decode cX8_lays 29 = .ok (.bipush 40, 2) := by decide +kernel
theorem dX8_lays_31 : decode cX8_lays 31 = .ok (.iload_n 1, 1) := by decide +kernel
theorem dX8_lays_32 : decode cX8_lays 32 = .ok (.imul, 1) := by decide +kernel
theorem dX8_lays_33 : decode cX8_lays 33 = .ok (.iload_n 3, 1) := by decide +kernel
theorem dX8_lays_34 : decode cX8_lays 34 = .ok (.iadd, 1) := by decide +kernel
theorem dX8_lays_35 : decode cX8_lays 35 = .ok (.iload_n 3, 1) := by decide +kernel
theorem dX8_lays_36 : decode cX8_lays 36 = .ok (.aload_n 0, 1) := by decide +kernel
theorem dX8_lays_37 : decode cX8_lays 37 = .ok (.getfield 95, 3) := by decide +kernel
theorem dX8_lays_40 : decode cX8_lays 40 = .ok (.if_icmp .ge 15, 3) := by decide +kernel
theorem dX8_lays_43 : decode cX8_lays 43 = .ok (.aload_n 0, 1) := by decide +kernel
theorem dX8_lays_44 : decode cX8_lays 44 = .ok (.getfield 38, 3) := by decide +kernel
theorem dX8_lays_47 : decode cX8_lays 47 = .ok (.iload_n 3, 1) := by decide +kernel
theorem dX8_lays_48 : decode cX8_lays 48 = .ok (.iaload, 1) := by decide +kernel
theorem dX8_lays_49 : decode cX8_lays 49 = .ok (.iload_n 2, 1) := by decide +kernel
theorem dX8_lays_50 : decode cX8_lays 50 = .ok (.idiv, 1) := by decide +kernel
theorem dX8_lays_51 : decode cX8_lays 51 = .ok (.i2l, 1) := by decide +kernel
theorem dX8_lays_52 : decode cX8_lays 52 = .ok (.goto 4, 3) := by decide +kernel
theorem dX8_lays_55 : decode cX8_lays 55 = .ok (.lconst 0, 1) := by decide +kernel
theorem dX8_lays_56 : decode cX8_lays 56 = .ok (.lastore, 1) := by decide +kernel
theorem dX8_lays_57 : decode cX8_lays 57 = .ok (.iinc 3 1, 3) := by decide +kernel
theorem dX8_lays_60 : decode cX8_lays 60 = .ok (.goto (-41), 3) := by decide +kernel
theorem dX8_lays_63 : decode cX8_lays 63 = .ok (.return_, 1) := by decide +kernel
def f_X8_lays (N : Nat) (x1 : Int32) (x2 : Int32) (M : Mem) : Option (Mem) := ck (inb x1 4) (nm (setI M 20 x1.toNatClampNeg (0 : Int32)) (fun M1 => ck (inb x1 4) (nm (setI M1 21 x1.toNatClampNeg (M1.1 0 0)) (fun M2 => lp (fun (k19 : (Int32 × Mem) → Option (Mem)) (a19 : Int32 × Mem) => if (40 : Int32) ≤ a19.1 then (some a19.2) else (jn (fun (a56 : Int64) => ck (inb (((40 : Int32) * x1) + a19.1) 160) (nm (setJ a19.2 22 (((40 : Int32) * x1) + a19.1).toNatClampNeg a56) (fun M3 => nm (a19.1 + (1 : Int32)) (fun v4 => k19 (v4, M3))))) (fun (k56 : Int64 → Option (Mem)) => if (a19.2.1 0 0) ≤ a19.1 then (k56 (0 : Int64)) else (ck (inb a19.1 6) (ck (¬ x2 = 0) (k56 (((a19.2.1 7 a19.1.toNatClampNeg) / x2).toInt64))))))) N ((0 : Int32), M2)))))
set_option maxRecDepth 100000 in
set_option maxHeartbeats 4000000 in
theorem c_X8_lays {l : Launch} {D : va_G} {ac : Nat → ClassId} {A : Nat → Prop} {ad : Nat → Nat} {rest : va_W} (N : Nat) (x1 : Int32) (x2 : Int32)  (M : Mem)  (M0 : Mem) (hf : f_X8_lays N x1 x2 M = some M0) : CtV l D ac A tabM ad rest yX8_lays cX8_lays 4  1 [.ref (ad 0), .int x1, .int x2] M  M0 := by
  refine ct_ofV (own := RX8) (by decide +kernel) rfl (Nat.le_of_ble_eq_true rfl) ?_
  intro p e s m args below meth c C
  unfold f_X8_lays at hf
  refine a_L (L' := [(0, .ref (ad 0)), (1, .int x1), (2, .int x2)]) rfl ?_
  refine a_aload_n (pc := 0) C dX8_lays_0 0 rfl ?_
  refine a_getR (pc := 1) C dX8_lays_1 fl_X8_77 tm_0 rfl ?_
  refine a_iload_n (pc := 4) C dX8_lays_4 1 rfl ?_
  refine a_iconst (pc := 5) (v := 0) C dX8_lays_5 (by decide) ?_
  refine a_iast (pc := 6) C dX8_lays_6 tm_20 hf (fun M1 hf => ?_)
  refine a_aload_n (pc := 7) C dX8_lays_7 0 rfl ?_
  refine a_getR (pc := 8) C dX8_lays_8 fl_X8_80 tm_0 rfl ?_
  refine a_iload_n (pc := 11) C dX8_lays_11 1 rfl ?_
  refine a_aload_n (pc := 12) C dX8_lays_12 0 rfl ?_
  refine a_getI (pc := 13) C dX8_lays_13 fl_X8_95 tm_0 rfl ?_
  refine a_iast (pc := 16) C dX8_lays_16 tm_21 hf (fun M2 hf => ?_)
  refine a_iconst (pc := 17) (v := 0) C dX8_lays_17 (by decide) ?_
  refine a_istore_n (pc := 18) [(3, .int (0 : Int32)), (0, .ref (ad 0)), (1, .int x1), (2, .int x2)] C dX8_lays_18 (by decide) rfl ?_
  refine a_sub [1, 2, 3, 0] rfl ?_
  refine a_lp 19 (fun a19 : Int32 × Mem => [(0, .ref (ad 0)), (1, .int x1), (2, .int x2), (3, .int a19.1)]) (fun a19 : Int32 × Mem => []) (fun a19 : Int32 × Mem => a19.2) (fun k19 a19 hk19 hf => ?_) N ((0 : Int32), M2) hf
  refine a_iload_n (pc := 19) C dX8_lays_19 3 rfl ?_
  refine a_bipush (pc := 20) (v := 40) C dX8_lays_20 (by decide) ?_
  refine a_icmp_ge (pc := 22) 63 C dX8_lays_22 (by decide) hf (fun hf => ?_) (fun hf => ?_)
  · exact a_vret (pc := 63) C dX8_lays_63 (Option.some.inj hf)
  · refine a_aload_n (pc := 25) C dX8_lays_25 0 rfl ?_
    refine a_getR (pc := 26) C dX8_lays_26 fl_X8_83 tm_0 rfl ?_
    refine a_bipush (pc := 29) (v := 40) C dX8_lays_29 (by decide) ?_
    refine a_iload_n (pc := 31) C dX8_lays_31 1 rfl ?_
    refine a_imul (pc := 32) C dX8_lays_32 ?_
    refine a_iload_n (pc := 33) C dX8_lays_33 3 rfl ?_
    refine a_iadd (pc := 34) C dX8_lays_34 ?_
    refine a_iload_n (pc := 35) C dX8_lays_35 3 rfl ?_
    refine a_aload_n (pc := 36) C dX8_lays_36 0 rfl ?_
    refine a_getI (pc := 37) C dX8_lays_37 fl_X8_95 tm_0 rfl ?_
    refine a_jn 56 (fun a56 : Int64 => [(0, .ref (ad 0)), (1, .int x1), (2, .int x2), (3, .int a19.1)]) (fun a56 : Int64 => [.long a56, .int (((40 : Int32) * x1) + a19.1), .ref (ad 22)]) (fun a56 : Int64 => a19.2) hf (fun a56 hf => ?_) (fun k56 hk56 hf => ?_)
    · refine a_last (pc := 56) C dX8_lays_56 tm_22 hf (fun M3 hf => ?_)
      refine a_iinc (pc := 57) (v := 1) (fun v4 => [(3, .int v4), (0, .ref (ad 0)), (1, .int x1), (2, .int x2)]) C dX8_lays_57 3 rfl (by decide) (by decide) (fun _ => rfl) hf (fun v4 hf => ?_)
      refine a_goto (pc := 60) 19 C dX8_lays_60 (by decide) ?_
      exact a_sub [1, 2, 3, 0] rfl (hk19 (v4, M3) hf)
    · refine a_icmp_ge (pc := 40) 55 C dX8_lays_40 (by decide) hf (fun hf => ?_) (fun hf => ?_)
      · refine a_lconst (pc := 55) (v := 0) C dX8_lays_55 (by decide) ?_
        exact a_sub [0, 1, 2, 3] rfl (hk56 (0 : Int64) hf)
      · refine a_aload_n (pc := 43) C dX8_lays_43 0 rfl ?_
        refine a_getR (pc := 44) C dX8_lays_44 fl_X8_38 tm_0 rfl ?_
        refine a_iload_n (pc := 47) C dX8_lays_47 3 rfl ?_
        refine a_iald (pc := 48) C dX8_lays_48 tm_7 hf (fun hf => ?_)
        refine a_iload_n (pc := 49) C dX8_lays_49 2 rfl ?_
        refine a_idiv (pc := 50) C dX8_lays_50 hf (fun hf => ?_)
        refine a_i2l (pc := 51) C dX8_lays_51 ?_
        refine a_goto (pc := 52) 56 C dX8_lays_52 (by decide) ?_
        exact a_sub [0, 1, 2, 3] rfl (hk56 (((a19.2.1 7 a19.1.toNatClampNeg) / x2).toInt64) hf)
theorem dX8_gets_0 : decode cX8_gets 0 = .ok (.lload 4, 2) := by decide +kernel
theorem dX8_gets_2 : decode cX8_gets 2 = .ok (.lconst 0, 1) := by decide +kernel
theorem dX8_gets_3 : decode cX8_gets 3 = .ok (.lcmp, 1) := by decide +kernel
theorem dX8_gets_4 : decode cX8_gets 4 = .ok (.ifCond .ne 6, 3) := by decide +kernel
theorem dX8_gets_7 : decode cX8_gets 7 = .ok (.bipush (-15), 2) := by decide +kernel
theorem dX8_gets_9 : decode cX8_gets 9 = .ok (.ireturn, 1) := by decide +kernel
theorem dX8_gets_10 : decode cX8_gets 10 = .ok (.lload_n 2, 1) := by decide +kernel
theorem dX8_gets_11 : decode cX8_gets 11 = .ok (.lconst 0, 1) := by decide +kernel
theorem dX8_gets_12 : decode cX8_gets 12 = .ok (.lcmp, 1) := by decide +kernel
theorem dX8_gets_13 : decode cX8_gets 13 = .ok (.ifCond .ge 7, 3) := by decide +kernel
theorem dX8_gets_16 : decode cX8_gets 16 = .ok (.lload_n 2, 1) := by decide +kernel
theorem dX8_gets_17 : decode cX8_gets 17 = .ok (.goto 5, 3) := by decide +kernel
theorem dX8_gets_20 : decode cX8_gets 20 = .ok (.lload_n 2, 1) := by decide +kernel
theorem dX8_gets_21 : decode cX8_gets 21 = .ok (.lneg, 1) := by decide +kernel
theorem dX8_gets_22 : decode cX8_gets 22 = .ok (.lstore 6, 2) := by decide +kernel
theorem dX8_gets_24 : decode cX8_gets 24 = .ok (.lload 4, 2) := by decide +kernel
theorem dX8_gets_26 : decode cX8_gets 26 = .ok (.lconst 0, 1) := by decide +kernel
theorem dX8_gets_27 : decode cX8_gets 27 = .ok (.lcmp, 1) := by decide +kernel
theorem dX8_gets_28 : decode cX8_gets 28 = .ok (.ifCond .ge 8, 3) := by decide +kernel
theorem dX8_gets_31 : decode cX8_gets 31 = .ok (.lload 4, 2) := by decide +kernel
theorem dX8_gets_33 : decode cX8_gets 33 = .ok (.goto 6, 3) := by decide +kernel
theorem dX8_gets_36 : decode cX8_gets 36 = .ok (.lload 4, 2) := by decide +kernel
theorem dX8_gets_38 : decode cX8_gets 38 = .ok (.lneg, 1) := by decide +kernel
theorem dX8_gets_39 : decode cX8_gets 39 = .ok (.lstore 8, 2) := by decide +kernel
theorem dX8_gets_41 : decode cX8_gets 41 = .ok (.lload 6, 2) := by decide +kernel
theorem dX8_gets_43 : decode cX8_gets 43 = .ok (.lstore 10, 2) := by decide +kernel
theorem dX8_gets_45 : decode cX8_gets 45 = .ok (.lload 8, 2) := by decide +kernel
theorem dX8_gets_47 : decode cX8_gets 47 = .ok (.lstore 12, 2) := by decide +kernel
theorem dX8_gets_49 : decode cX8_gets 49 = .ok (.lload 12, 2) := by decide +kernel
theorem dX8_gets_51 : decode cX8_gets 51 = .ok (.lconst 0, 1) := by decide +kernel
theorem dX8_gets_52 : decode cX8_gets 52 = .ok (.lcmp, 1) := by decide +kernel
theorem dX8_gets_53 : decode cX8_gets 53 = .ok (.ifCond .eq 21, 3) := by decide +kernel
theorem dX8_gets_56 : decode cX8_gets 56 = .ok (.lload 10, 2) := by decide +kernel
theorem dX8_gets_58 : decode cX8_gets 58 = .ok (.lload 12, 2) := by decide +kernel
theorem dX8_gets_60 : decode cX8_gets 60 = .ok (.lrem, 1) := by decide +kernel
theorem dX8_gets_61 : decode cX8_gets 61 = .ok (.lstore 14, 2) := by decide +kernel
theorem dX8_gets_63 : decode cX8_gets 63 = .ok (.lload 12, 2) := by decide +kernel
theorem dX8_gets_65 : decode cX8_gets 65 = .ok (.lstore 10, 2) := by decide +kernel
theorem dX8_gets_67 : decode cX8_gets 67 = .ok (.lload 14, 2) := by decide +kernel
theorem dX8_gets_69 : decode cX8_gets 69 = .ok (.lstore 12, 2) := by decide +kernel
theorem dX8_gets_71 : decode cX8_gets 71 = .ok (.goto (-22), 3) := by decide +kernel
theorem dX8_gets_74 : decode cX8_gets 74 = .ok (.lload 10, 2) := by decide +kernel
theorem dX8_gets_76 : decode cX8_gets 76 = .ok (.ldc2_w 267, 3) := by decide +kernel
theorem dX8_gets_79 : decode cX8_gets 79 = .ok (.lcmp, 1) := by decide +kernel
theorem dX8_gets_80 : decode cX8_gets 80 = .ok (.ifCond .ne 29, 3) := by decide +kernel
theorem dX8_gets_83 : decode cX8_gets 83 = .ok (.lload 6, 2) := by decide +kernel
theorem dX8_gets_85 : decode cX8_gets 85 = .ok (.ldc2_w 267, 3) := by decide +kernel
theorem dX8_gets_88 : decode cX8_gets 88 = .ok (.lcmp, 1) := by decide +kernel
theorem dX8_gets_89 : decode cX8_gets 89 = .ok (.ifCond .ne 9, 3) := by decide +kernel
theorem dX8_gets_92 : decode cX8_gets 92 = .ok (.ldc2_w 269, 3) := by decide +kernel
theorem dX8_gets_95 : decode cX8_gets 95 = .ok (.goto 4, 3) := by decide +kernel
theorem dX8_gets_98 : decode cX8_gets 98 = .ok (.lconst 0, 1) := by decide +kernel
theorem dX8_gets_99 : decode cX8_gets 99 = .ok (.lstore 6, 2) := by decide +kernel
theorem dX8_gets_101 : decode cX8_gets 101 = .ok (.ldc2_w 269, 3) := by decide +kernel
theorem dX8_gets_104 : decode cX8_gets 104 = .ok (.lstore 8, 2) := by decide +kernel
theorem dX8_gets_106 : decode cX8_gets 106 = .ok (.goto 19, 3) := by decide +kernel
theorem dX8_gets_109 : decode cX8_gets 109 = .ok (.lload 6, 2) := by decide +kernel
theorem dX8_gets_111 : decode cX8_gets 111 = .ok (.lload 10, 2) := by decide +kernel
theorem dX8_gets_113 : decode cX8_gets 113 = .ok (.lneg, 1) := by decide +kernel
theorem dX8_gets_114 : decode cX8_gets 114 = .ok (.ldiv, 1) := by decide +kernel
theorem dX8_gets_115 : decode cX8_gets 115 = .ok (.lstore 6, 2) := by decide +kernel
theorem dX8_gets_117 : decode cX8_gets 117 = .ok (.lload 8, 2) := by decide +kernel
theorem dX8_gets_119 : decode cX8_gets 119 = .ok (.lload 10, 2) := by decide +kernel
theorem dX8_gets_121 : decode cX8_gets 121 = .ok (.lneg, 1) := by decide +kernel
theorem dX8_gets_122 : decode cX8_gets 122 = .ok (.ldiv, 1) := by decide +kernel
theorem dX8_gets_123 : decode cX8_gets 123 = .ok (.lstore 8, 2) := by decide +kernel
theorem dX8_gets_125 : decode cX8_gets 125 = .ok (.lload_n 2, 1) := by decide +kernel
theorem dX8_gets_126 : decode cX8_gets 126 = .ok (.lconst 0, 1) := by decide +kernel
theorem dX8_gets_127 : decode cX8_gets 127 = .ok (.lcmp, 1) := by decide +kernel
theorem dX8_gets_128 : decode cX8_gets 128 = .ok (.ifCond .ge 7, 3) := by decide +kernel
theorem dX8_gets_131 : decode cX8_gets 131 = .ok (.iconst 1, 1) := by decide +kernel
theorem dX8_gets_132 : decode cX8_gets 132 = .ok (.goto 4, 3) := by decide +kernel
theorem dX8_gets_135 : decode cX8_gets 135 = .ok (.iconst 0, 1) := by decide +kernel
theorem dX8_gets_136 : decode cX8_gets 136 = .ok (.lload 4, 2) := by decide +kernel
theorem dX8_gets_138 : decode cX8_gets 138 = .ok (.lconst 0, 1) := by decide +kernel
theorem dX8_gets_139 : decode cX8_gets 139 = .ok (.lcmp, 1) := by decide +kernel
theorem dX8_gets_140 : decode cX8_gets 140 = .ok (.ifCond .ge 7, 3) := by decide +kernel
theorem dX8_gets_143 : decode cX8_gets 143 = .ok (.iconst 1, 1) := by decide +kernel
theorem dX8_gets_144 : decode cX8_gets 144 = .ok (.goto 4, 3) := by decide +kernel
theorem dX8_gets_147 : decode cX8_gets 147 = .ok (.iconst 0, 1) := by decide +kernel
theorem dX8_gets_148 : decode cX8_gets 148 = .ok (.if_icmp .eq 7, 3) := by decide +kernel
theorem dX8_gets_151 : decode cX8_gets 151 = .ok (.iconst 1, 1) := by decide +kernel
theorem dX8_gets_152 : decode cX8_gets 152 = .ok (.goto 4, 3) := by decide +kernel
theorem dX8_gets_155 : decode cX8_gets 155 = .ok (.iconst 0, 1) := by decide +kernel
theorem dX8_gets_156 : decode cX8_gets 156 = .ok (.istore 14, 2) := by decide +kernel
theorem dX8_gets_158 : decode cX8_gets 158 = .ok (.lload 8, 2) := by decide +kernel
theorem dX8_gets_160 : decode cX8_gets 160 = .ok (.ldc2_w 267, 3) := by decide +kernel
theorem dX8_gets_163 : decode cX8_gets 163 = .ok (.lcmp, 1) := by decide +kernel
theorem dX8_gets_164 : decode cX8_gets 164 = .ok (.ifCond .eq 17, 3) := by decide +kernel
theorem dX8_gets_167 : decode cX8_gets 167 = .ok (.lload 6, 2) := by decide +kernel
theorem dX8_gets_169 : decode cX8_gets 169 = .ok (.ldc2_w 267, 3) := by decide +kernel
theorem dX8_gets_172 : decode cX8_gets 172 = .ok (.lcmp, 1) := by decide +kernel
theorem dX8_gets_173 : decode cX8_gets 173 = .ok (.ifCond .ne 11, 3) := by decide +kernel
theorem dX8_gets_176 : decode cX8_gets 176 = .ok (.iload 14, 2) := by decide +kernel
theorem dX8_gets_178 : decode cX8_gets 178 = .ok (.ifCond .ne 6, 3) := by decide +kernel
theorem dX8_gets_181 : decode cX8_gets 181 = .ok (.bipush (-5), 2) := by decide +kernel
theorem dX8_gets_183 : decode cX8_gets 183 = .ok (.ireturn, 1) := by decide +kernel
theorem dX8_gets_184 : decode cX8_gets 184 = .ok (.aload_n 0, 1) := by decide +kernel
theorem dX8_gets_185 : decode cX8_gets 185 = .ok (.getfield 50, 3) := by decide +kernel
theorem dX8_gets_188 : decode cX8_gets 188 = .ok (.iload_n 1, 1) := by decide +kernel
theorem dX8_gets_189 : decode cX8_gets 189 = .ok (.iconst 1, 1) := by decide +kernel
theorem dX8_gets_190 : decode cX8_gets 190 = .ok (.iastore, 1) := by decide +kernel
theorem dX8_gets_191 : decode cX8_gets 191 = .ok (.aload_n 0, 1) := by decide +kernel
theorem dX8_gets_192 : decode cX8_gets 192 = .ok (.getfield 62, 3) := by decide +kernel
theorem dX8_gets_195 : decode cX8_gets 195 = .ok (.iload_n 1, 1) := by decide +kernel
theorem dX8_gets_196 : decode cX8_gets 196 = .ok (.iload 14, 2) := by decide +kernel
theorem dX8_gets_198 : decode cX8_gets 198 = .ok (.ifCond .eq 8, 3) := by decide +kernel
theorem dX8_gets_201 : decode cX8_gets 201 = .ok (.lload 6, 2) := by decide +kernel
theorem dX8_gets_203 : decode cX8_gets 203 = .ok (.goto 6, 3) := by decide +kernel
theorem dX8_gets_206 : decode cX8_gets 206 = .ok (.lload 6, 2) := by decide +kernel
theorem dX8_gets_208 : decode cX8_gets 208 = .ok (.lneg, 1) := by decide +kernel
theorem dX8_gets_209 : decode cX8_gets 209 = .ok (.lastore, 1) := by decide +kernel
theorem dX8_gets_210 : decode cX8_gets 210 = .ok (.aload_n 0, 1) := by decide +kernel
theorem dX8_gets_211 : decode cX8_gets 211 = .ok (.getfield 65, 3) := by decide +kernel
theorem dX8_gets_214 : decode cX8_gets 214 = .ok (.iload_n 1, 1) := by decide +kernel
theorem dX8_gets_215 : decode cX8_gets 215 = .ok (.lload 8, 2) := by decide +kernel
theorem dX8_gets_217 : decode cX8_gets 217 = .ok (.lneg, 1) := by decide +kernel
theorem dX8_gets_218 : decode cX8_gets 218 = .ok (.lastore, 1) := by decide +kernel
theorem dX8_gets_219 : decode cX8_gets 219 = .ok (.iconst 1, 1) := by decide +kernel
theorem dX8_gets_220 : decode cX8_gets 220 = .ok (.ireturn, 1) := by decide +kernel
def f_X8_gets (N : Nat) (x1 : Int32) (x2 : Int64) (x4 : Int64) (M : Mem) : Option (Int32 × Mem) := if (lg_cmp x4 (0 : Int64)) = 0 then (some ((-15 : Int32), M)) else (jn (fun (a22 : Int64) => jn (fun (a39 : Int64) => lp (fun (k49 : (Int64 × Int64) → Option (Int32 × Mem)) (a49 : Int64 × Int64) => if (lg_cmp a49.2 (0 : Int64)) = 0 then (jn (fun (a125 : Int64 × Int64) => jn (fun (a136 : Int32) => jn (fun (a148 : Int32) => jn (fun (a156 : Int32) => if (lg_cmp a125.2 (-9223372036854775808 : Int64)) = 0 then (some ((-5 : Int32), M)) else (jn (fun (a184 : Unit) => ck (inb x1 4) (nm (setI M 11 x1.toNatClampNeg (1 : Int32)) (fun M1 => jn (fun (a209 : Int64) => ck (inb x1 4) (nm (setJ M1 15 x1.toNatClampNeg a209) (fun M2 => ck (inb x1 4) (nm (setJ M2 16 x1.toNatClampNeg (-a125.2)) (fun M3 => some ((1 : Int32), M3)))))) (fun (k209 : Int64 → Option (Int32 × Mem)) => if a156 = 0 then (k209 (-a125.1)) else (k209 a125.1))))) (fun (k184 : Unit → Option (Int32 × Mem)) => if (lg_cmp a125.1 (-9223372036854775808 : Int64)) = 0 then (if a156 = 0 then (some ((-5 : Int32), M)) else (k184 ())) else (k184 ())))) (fun (k156 : Int32 → Option (Int32 × Mem)) => if a136 = a148 then (k156 (0 : Int32)) else (k156 (1 : Int32)))) (fun (k148 : Int32 → Option (Int32 × Mem)) => if 0 ≤ (lg_cmp x4 (0 : Int64)) then (k148 (0 : Int32)) else (k148 (1 : Int32)))) (fun (k136 : Int32 → Option (Int32 × Mem)) => if 0 ≤ (lg_cmp x2 (0 : Int64)) then (k136 (0 : Int32)) else (k136 (1 : Int32)))) (fun (k125 : (Int64 × Int64) → Option (Int32 × Mem)) => if (lg_cmp a49.1 (-9223372036854775808 : Int64)) = 0 then (jn (fun (a99 : Int64) => k125 (a99, (-1 : Int64))) (fun (k99 : Int64 → Option (Int32 × Mem)) => if (lg_cmp a22 (-9223372036854775808 : Int64)) = 0 then (k99 (-1 : Int64)) else (k99 (0 : Int64)))) else (ck (¬ (-a49.1) = 0) (nm (a22 / (-a49.1)) (fun v4 => ck (¬ (-a49.1) = 0) (nm (a39 / (-a49.1)) (fun v5 => k125 (v4, v5)))))))) else (ck (¬ a49.2 = 0) (nm (a49.1 - a49.1 / a49.2 * a49.2) (fun v6 => k49 (a49.2, v6))))) N (a22, a39)) (fun (k39 : Int64 → Option (Int32 × Mem)) => if 0 ≤ (lg_cmp x4 (0 : Int64)) then (k39 (-x4)) else (k39 x4))) (fun (k22 : Int64 → Option (Int32 × Mem)) => if 0 ≤ (lg_cmp x2 (0 : Int64)) then (k22 (-x2)) else (k22 x2)))
set_option maxRecDepth 100000 in
set_option maxHeartbeats 4000000 in
theorem c_X8_gets {l : Launch} {D : va_G} {ac : Nat → ClassId} {A : Nat → Prop} {ad : Nat → Nat} {rest : va_W} (N : Nat) (x1 : Int32) (x2 : Int64) (x4 : Int64)  (M : Mem) (r0 : Int32) (M0 : Mem) (hf : f_X8_gets N x1 x2 x4 M = some (r0, M0)) : CtI l D ac A tabM ad rest yX8_gets cX8_gets 16 .int 1 [.ref (ad 0), .int x1, .long x2, .long x4] M r0 M0 := by
  refine ct_ofI (own := RX8) (by decide +kernel) rfl (Nat.le_of_ble_eq_true rfl) ?_
  intro p e s m args below meth c C
  unfold f_X8_gets at hf
  refine a_L (L' := [(0, .ref (ad 0)), (1, .int x1), (2, .long x2), (4, .long x4)]) rfl ?_
  refine a_lload (pc := 0) C dX8_gets_0 3 rfl ?_
  refine a_lconst (pc := 2) (v := 0) C dX8_gets_2 (by decide) ?_
  refine a_lcmp (pc := 3) C dX8_gets_3 ?_
  refine a_if_ne (pc := 4) 10 C dX8_gets_4 (by decide) hf (fun hf => ?_) (fun hf => ?_)
  · refine a_lload_n (pc := 10) C dX8_gets_10 2 rfl ?_
    refine a_lconst (pc := 11) (v := 0) C dX8_gets_11 (by decide) ?_
    refine a_lcmp (pc := 12) C dX8_gets_12 ?_
    refine a_jn 22 (fun a22 : Int64 => [(0, .ref (ad 0)), (1, .int x1), (2, .long x2), (4, .long x4)]) (fun a22 : Int64 => [.long a22]) (fun a22 : Int64 => M) hf (fun a22 hf => ?_) (fun k22 hk22 hf => ?_)
    · refine a_lstore (pc := 22) [(6, .long a22), (0, .ref (ad 0)), (1, .int x1), (2, .long x2), (4, .long x4)] C dX8_gets_22 (by decide) rfl ?_
      refine a_lload (pc := 24) C dX8_gets_24 4 rfl ?_
      refine a_lconst (pc := 26) (v := 0) C dX8_gets_26 (by decide) ?_
      refine a_lcmp (pc := 27) C dX8_gets_27 ?_
      refine a_jn 39 (fun a39 : Int64 => [(0, .ref (ad 0)), (1, .int x1), (2, .long x2), (4, .long x4), (6, .long a22)]) (fun a39 : Int64 => [.long a39]) (fun a39 : Int64 => M) hf (fun a39 hf => ?_) (fun k39 hk39 hf => ?_)
      · refine a_lstore (pc := 39) [(8, .long a39), (0, .ref (ad 0)), (1, .int x1), (2, .long x2), (4, .long x4), (6, .long a22)] C dX8_gets_39 (by decide) rfl ?_
        refine a_lload (pc := 41) C dX8_gets_41 5 rfl ?_
        refine a_lstore (pc := 43) [(10, .long a22), (8, .long a39), (0, .ref (ad 0)), (1, .int x1), (2, .long x2), (4, .long x4), (6, .long a22)] C dX8_gets_43 (by decide) rfl ?_
        refine a_lload (pc := 45) C dX8_gets_45 1 rfl ?_
        refine a_lstore (pc := 47) [(12, .long a39), (10, .long a22), (8, .long a39), (0, .ref (ad 0)), (1, .int x1), (2, .long x2), (4, .long x4), (6, .long a22)] C dX8_gets_47 (by decide) rfl ?_
        refine a_sub [3, 4, 5, 6, 7, 2, 1, 0] rfl ?_
        refine a_lp 49 (fun a49 : Int64 × Int64 => [(0, .ref (ad 0)), (1, .int x1), (2, .long x2), (4, .long x4), (6, .long a22), (8, .long a39), (10, .long a49.1), (12, .long a49.2)]) (fun a49 : Int64 × Int64 => []) (fun a49 : Int64 × Int64 => M) (fun k49 a49 hk49 hf => ?_) N (a22, a39) hf
        refine a_lload (pc := 49) C dX8_gets_49 7 rfl ?_
        refine a_lconst (pc := 51) (v := 0) C dX8_gets_51 (by decide) ?_
        refine a_lcmp (pc := 52) C dX8_gets_52 ?_
        refine a_if_eq (pc := 53) 74 C dX8_gets_53 (by decide) hf (fun hf => ?_) (fun hf => ?_)
        · refine a_lload (pc := 74) C dX8_gets_74 6 rfl ?_
          refine a_ldc2 (pc := 76) C dX8_gets_76 cj_X8_267 ?_
          refine a_lcmp (pc := 79) C dX8_gets_79 ?_
          refine a_jn 125 (fun a125 : Int64 × Int64 => [(0, .ref (ad 0)), (1, .int x1), (2, .long x2), (4, .long x4), (6, .long a125.1), (8, .long a125.2)]) (fun a125 : Int64 × Int64 => []) (fun a125 : Int64 × Int64 => M) hf (fun a125 hf => ?_) (fun k125 hk125 hf => ?_)
          · refine a_lload_n (pc := 125) C dX8_gets_125 2 rfl ?_
            refine a_lconst (pc := 126) (v := 0) C dX8_gets_126 (by decide) ?_
            refine a_lcmp (pc := 127) C dX8_gets_127 ?_
            refine a_jn 136 (fun a136 : Int32 => [(0, .ref (ad 0)), (1, .int x1), (4, .long x4), (6, .long a125.1), (8, .long a125.2)]) (fun a136 : Int32 => [.int a136]) (fun a136 : Int32 => M) hf (fun a136 hf => ?_) (fun k136 hk136 hf => ?_)
            · refine a_lload (pc := 136) C dX8_gets_136 2 rfl ?_
              refine a_lconst (pc := 138) (v := 0) C dX8_gets_138 (by decide) ?_
              refine a_lcmp (pc := 139) C dX8_gets_139 ?_
              refine a_jn 148 (fun a148 : Int32 => [(0, .ref (ad 0)), (1, .int x1), (6, .long a125.1), (8, .long a125.2)]) (fun a148 : Int32 => [.int a148, .int a136]) (fun a148 : Int32 => M) hf (fun a148 hf => ?_) (fun k148 hk148 hf => ?_)
              · refine a_jn 156 (fun a156 : Int32 => [(0, .ref (ad 0)), (1, .int x1), (6, .long a125.1), (8, .long a125.2)]) (fun a156 : Int32 => [.int a156]) (fun a156 : Int32 => M) hf (fun a156 hf => ?_) (fun k156 hk156 hf => ?_)
                · refine a_istore (pc := 156) [(14, .int a156), (0, .ref (ad 0)), (1, .int x1), (6, .long a125.1), (8, .long a125.2)] C dX8_gets_156 (by decide) rfl ?_
                  refine a_lload (pc := 158) C dX8_gets_158 4 rfl ?_
                  refine a_ldc2 (pc := 160) C dX8_gets_160 cj_X8_267 ?_
                  refine a_lcmp (pc := 163) C dX8_gets_163 ?_
                  refine a_if_eq (pc := 164) 181 C dX8_gets_164 (by decide) hf (fun hf => ?_) (fun hf => ?_)
                  · refine a_bipush (pc := 181) (v := (-5)) C dX8_gets_181 (by decide) ?_
                    exact a_iret (pc := 183) C dX8_gets_183 (so_1 hf) (so_2 hf)
                  · refine a_lload (pc := 167) C dX8_gets_167 3 rfl ?_
                    refine a_ldc2 (pc := 169) C dX8_gets_169 cj_X8_267 ?_
                    refine a_lcmp (pc := 172) C dX8_gets_172 ?_
                    refine a_jn 184 (fun a184 : Unit => [(0, .ref (ad 0)), (1, .int x1), (6, .long a125.1), (8, .long a125.2), (14, .int a156)]) (fun a184 : Unit => []) (fun a184 : Unit => M) hf (fun a184 hf => ?_) (fun k184 hk184 hf => ?_)
                    · refine a_aload_n (pc := 184) C dX8_gets_184 0 rfl ?_
                      refine a_getR (pc := 185) C dX8_gets_185 fl_X8_50 tm_0 rfl ?_
                      refine a_iload_n (pc := 188) C dX8_gets_188 1 rfl ?_
                      refine a_iconst (pc := 189) (v := 1) C dX8_gets_189 (by decide) ?_
                      refine a_iast (pc := 190) C dX8_gets_190 tm_11 hf (fun M1 hf => ?_)
                      refine a_aload_n (pc := 191) C dX8_gets_191 0 rfl ?_
                      refine a_getR (pc := 192) C dX8_gets_192 fl_X8_62 tm_0 rfl ?_
                      refine a_iload_n (pc := 195) C dX8_gets_195 1 rfl ?_
                      refine a_iload (pc := 196) C dX8_gets_196 4 rfl ?_
                      refine a_jn 209 (fun a209 : Int64 => [(0, .ref (ad 0)), (1, .int x1), (8, .long a125.2)]) (fun a209 : Int64 => [.long a209, .int x1, .ref (ad 15)]) (fun a209 : Int64 => M1) hf (fun a209 hf => ?_) (fun k209 hk209 hf => ?_)
                      · refine a_last (pc := 209) C dX8_gets_209 tm_15 hf (fun M2 hf => ?_)
                        refine a_aload_n (pc := 210) C dX8_gets_210 0 rfl ?_
                        refine a_getR (pc := 211) C dX8_gets_211 fl_X8_65 tm_0 rfl ?_
                        refine a_iload_n (pc := 214) C dX8_gets_214 1 rfl ?_
                        refine a_lload (pc := 215) C dX8_gets_215 2 rfl ?_
                        refine a_lneg (pc := 217) C dX8_gets_217 ?_
                        refine a_last (pc := 218) C dX8_gets_218 tm_16 hf (fun M3 hf => ?_)
                        refine a_iconst (pc := 219) (v := 1) C dX8_gets_219 (by decide) ?_
                        exact a_iret (pc := 220) C dX8_gets_220 (so_1 hf) (so_2 hf)
                      · refine a_if_eq (pc := 198) 206 C dX8_gets_198 (by decide) hf (fun hf => ?_) (fun hf => ?_)
                        · refine a_lload (pc := 206) C dX8_gets_206 2 rfl ?_
                          refine a_lneg (pc := 208) C dX8_gets_208 ?_
                          exact a_sub [0, 1, 3] rfl (hk209 (-a125.1) hf)
                        · refine a_lload (pc := 201) C dX8_gets_201 2 rfl ?_
                          refine a_goto (pc := 203) 209 C dX8_gets_203 (by decide) ?_
                          exact a_sub [0, 1, 3] rfl (hk209 a125.1 hf)
                    · refine a_if_ne (pc := 173) 184 C dX8_gets_173 (by decide) hf (fun hf => ?_) (fun hf => ?_)
                      · exact a_sub [1, 2, 3, 4, 0] rfl (hk184 () hf)
                      · refine a_iload (pc := 176) C dX8_gets_176 0 rfl ?_
                        refine a_if_ne (pc := 178) 184 C dX8_gets_178 (by decide) hf (fun hf => ?_) (fun hf => ?_)
                        · exact a_sub [1, 2, 3, 4, 0] rfl (hk184 () hf)
                        · refine a_bipush (pc := 181) (v := (-5)) C dX8_gets_181 (by decide) ?_
                          exact a_iret (pc := 183) C dX8_gets_183 (so_1 hf) (so_2 hf)
                · refine a_icmp_eq (pc := 148) 155 C dX8_gets_148 (by decide) hf (fun hf => ?_) (fun hf => ?_)
                  · refine a_iconst (pc := 155) (v := 0) C dX8_gets_155 (by decide) ?_
                    exact a_sub [0, 1, 2, 3] rfl (hk156 (0 : Int32) hf)
                  · refine a_iconst (pc := 151) (v := 1) C dX8_gets_151 (by decide) ?_
                    refine a_goto (pc := 152) 156 C dX8_gets_152 (by decide) ?_
                    exact a_sub [0, 1, 2, 3] rfl (hk156 (1 : Int32) hf)
              · refine a_if_ge (pc := 140) 147 C dX8_gets_140 (by decide) hf (fun hf => ?_) (fun hf => ?_)
                · refine a_iconst (pc := 147) (v := 0) C dX8_gets_147 (by decide) ?_
                  exact a_sub [0, 1, 3, 4] rfl (hk148 (0 : Int32) hf)
                · refine a_iconst (pc := 143) (v := 1) C dX8_gets_143 (by decide) ?_
                  refine a_goto (pc := 144) 148 C dX8_gets_144 (by decide) ?_
                  exact a_sub [0, 1, 3, 4] rfl (hk148 (1 : Int32) hf)
            · refine a_if_ge (pc := 128) 135 C dX8_gets_128 (by decide) hf (fun hf => ?_) (fun hf => ?_)
              · refine a_iconst (pc := 135) (v := 0) C dX8_gets_135 (by decide) ?_
                exact a_sub [0, 1, 3, 4, 5] rfl (hk136 (0 : Int32) hf)
              · refine a_iconst (pc := 131) (v := 1) C dX8_gets_131 (by decide) ?_
                refine a_goto (pc := 132) 136 C dX8_gets_132 (by decide) ?_
                exact a_sub [0, 1, 3, 4, 5] rfl (hk136 (1 : Int32) hf)
          · refine a_if_ne (pc := 80) 109 C dX8_gets_80 (by decide) hf (fun hf => ?_) (fun hf => ?_)
            · refine a_lload (pc := 109) C dX8_gets_109 4 rfl ?_
              refine a_lload (pc := 111) C dX8_gets_111 6 rfl ?_
              refine a_lneg (pc := 113) C dX8_gets_113 ?_
              refine a_ldiv (pc := 114) C dX8_gets_114 hf (fun hf => ?_)
              refine a_nml hf (fun v4 hf => ?_)
              refine a_lstore (pc := 115) [(6, .long v4), (0, .ref (ad 0)), (1, .int x1), (2, .long x2), (4, .long x4), (8, .long a39), (10, .long a49.1), (12, .long a49.2)] C dX8_gets_115 (by decide) rfl ?_
              refine a_lload (pc := 117) C dX8_gets_117 5 rfl ?_
              refine a_lload (pc := 119) C dX8_gets_119 6 rfl ?_
              refine a_lneg (pc := 121) C dX8_gets_121 ?_
              refine a_ldiv (pc := 122) C dX8_gets_122 hf (fun hf => ?_)
              refine a_nml hf (fun v5 hf => ?_)
              refine a_lstore (pc := 123) [(8, .long v5), (6, .long v4), (0, .ref (ad 0)), (1, .int x1), (2, .long x2), (4, .long x4), (10, .long a49.1), (12, .long a49.2)] C dX8_gets_123 (by decide) rfl ?_
              exact a_sub [2, 3, 4, 5, 1, 0] rfl (hk125 (v4, v5) hf)
            · refine a_lload (pc := 83) C dX8_gets_83 4 rfl ?_
              refine a_ldc2 (pc := 85) C dX8_gets_85 cj_X8_267 ?_
              refine a_lcmp (pc := 88) C dX8_gets_88 ?_
              refine a_jn 99 (fun a99 : Int64 => [(0, .ref (ad 0)), (1, .int x1), (2, .long x2), (4, .long x4)]) (fun a99 : Int64 => [.long a99]) (fun a99 : Int64 => M) hf (fun a99 hf => ?_) (fun k99 hk99 hf => ?_)
              · refine a_lstore (pc := 99) [(6, .long a99), (0, .ref (ad 0)), (1, .int x1), (2, .long x2), (4, .long x4)] C dX8_gets_99 (by decide) rfl ?_
                refine a_ldc2 (pc := 101) C dX8_gets_101 cj_X8_269 ?_
                refine a_lstore (pc := 104) [(8, .long (-1 : Int64)), (6, .long a99), (0, .ref (ad 0)), (1, .int x1), (2, .long x2), (4, .long x4)] C dX8_gets_104 (by decide) rfl ?_
                refine a_goto (pc := 106) 125 C dX8_gets_106 (by decide) ?_
                exact a_sub [2, 3, 4, 5, 1, 0] rfl (hk125 (a99, (-1 : Int64)) hf)
              · refine a_if_ne (pc := 89) 98 C dX8_gets_89 (by decide) hf (fun hf => ?_) (fun hf => ?_)
                · refine a_lconst (pc := 98) (v := 0) C dX8_gets_98 (by decide) ?_
                  exact a_sub [0, 1, 2, 3] rfl (hk99 (0 : Int64) hf)
                · refine a_ldc2 (pc := 92) C dX8_gets_92 cj_X8_269 ?_
                  refine a_goto (pc := 95) 99 C dX8_gets_95 (by decide) ?_
                  exact a_sub [0, 1, 2, 3] rfl (hk99 (-1 : Int64) hf)
        · refine a_lload (pc := 56) C dX8_gets_56 6 rfl ?_
          refine a_lload (pc := 58) C dX8_gets_58 7 rfl ?_
          refine a_lrem (pc := 60) C dX8_gets_60 hf (fun hf => ?_)
          refine a_nml hf (fun v6 hf => ?_)
          refine a_lstore (pc := 61) [(14, .long v6), (0, .ref (ad 0)), (1, .int x1), (2, .long x2), (4, .long x4), (6, .long a22), (8, .long a39), (10, .long a49.1), (12, .long a49.2)] C dX8_gets_61 (by decide) rfl ?_
          refine a_lload (pc := 63) C dX8_gets_63 8 rfl ?_
          refine a_lstore (pc := 65) [(10, .long a49.2), (14, .long v6), (0, .ref (ad 0)), (1, .int x1), (2, .long x2), (4, .long x4), (6, .long a22), (8, .long a39), (12, .long a49.2)] C dX8_gets_65 (by decide) rfl ?_
          refine a_lload (pc := 67) C dX8_gets_67 1 rfl ?_
          refine a_lstore (pc := 69) [(12, .long v6), (10, .long a49.2), (14, .long v6), (0, .ref (ad 0)), (1, .int x1), (2, .long x2), (4, .long x4), (6, .long a22), (8, .long a39)] C dX8_gets_69 (by decide) rfl ?_
          refine a_goto (pc := 71) 49 C dX8_gets_71 (by decide) ?_
          exact a_sub [3, 4, 5, 6, 7, 8, 1, 0] rfl (hk49 (a49.2, v6) hf)
      · refine a_if_ge (pc := 28) 36 C dX8_gets_28 (by decide) hf (fun hf => ?_) (fun hf => ?_)
        · refine a_lload (pc := 36) C dX8_gets_36 4 rfl ?_
          refine a_lneg (pc := 38) C dX8_gets_38 ?_
          exact a_sub [1, 2, 3, 4, 0] rfl (hk39 (-x4) hf)
        · refine a_lload (pc := 31) C dX8_gets_31 4 rfl ?_
          refine a_goto (pc := 33) 39 C dX8_gets_33 (by decide) ?_
          exact a_sub [1, 2, 3, 4, 0] rfl (hk39 x4 hf)
    · refine a_if_ge (pc := 13) 20 C dX8_gets_13 (by decide) hf (fun hf => ?_) (fun hf => ?_)
      · refine a_lload_n (pc := 20) C dX8_gets_20 2 rfl ?_
        refine a_lneg (pc := 21) C dX8_gets_21 ?_
        exact a_sub [0, 1, 2, 3] rfl (hk22 (-x2) hf)
      · refine a_lload_n (pc := 16) C dX8_gets_16 2 rfl ?_
        refine a_goto (pc := 17) 22 C dX8_gets_17 (by decide) ?_
        exact a_sub [0, 1, 2, 3] rfl (hk22 x2 hf)
  · refine a_bipush (pc := 7) (v := (-15)) C dX8_gets_7 (by decide) ?_
    exact a_iret (pc := 9) C dX8_gets_9 (so_1 hf) (so_2 hf)
theorem dX8_times_0 : decode cX8_times 0 = .ok (.lload_n 1, 1) := by decide +kernel
theorem dX8_times_1 : decode cX8_times 1 = .ok (.lload_n 3, 1) := by decide +kernel
theorem dX8_times_2 : decode cX8_times 2 = .ok (.lmul, 1) := by decide +kernel
theorem dX8_times_3 : decode cX8_times 3 = .ok (.lstore 5, 2) := by decide +kernel
theorem dX8_times_5 : decode cX8_times 5 = .ok (.aload_n 0, 1) := by decide +kernel
theorem dX8_times_6 : decode cX8_times 6 = .ok (.aload_n 0, 1) := by decide +kernel
theorem dX8_times_7 : decode cX8_times 7 = .ok (.getfield 278, 3) := by decide +kernel
theorem dX8_times_10 : decode cX8_times 10 = .ok (.ifCond .ne 58, 3) := by decide +kernel
theorem dX8_times_13 : decode cX8_times 13 = .ok (.lload_n 1, 1) := by decide +kernel
theorem dX8_times_14 : decode cX8_times 14 = .ok (.ldc2_w 269, 3) := by decide +kernel
theorem dX8_times_17 : decode cX8_times 17 = .ok (.lcmp, 1) := by decide +kernel
theorem dX8_times_18 : decode cX8_times 18 = .ok (.ifCond .ne 11, 3) := by decide +kernel
theorem dX8_times_21 : decode cX8_times 21 = .ok (.lload_n 3, 1) := by decide +kernel
theorem dX8_times_22 : decode cX8_times 22 = .ok (.ldc2_w 267, 3) := by decide +kernel
theorem dX8_times_25 : decode cX8_times 25 = .ok (.lcmp, 1) := by decide +kernel
theorem dX8_times_26 : decode cX8_times 26 = .ok (.ifCond .eq 42, 3) := by decide +kernel
theorem dX8_times_29 : decode cX8_times 29 = .ok (.lload_n 3, 1) := by decide +kernel
theorem dX8_times_30 : decode cX8_times 30 = .ok (.ldc2_w 269, 3) := by decide +kernel
theorem dX8_times_33 : decode cX8_times 33 = .ok (.lcmp, 1) := by decide +kernel
theorem dX8_times_34 : decode cX8_times 34 = .ok (.ifCond .ne 11, 3) := by decide +kernel
theorem dX8_times_37 : decode cX8_times 37 = .ok (.lload_n 1, 1) := by decide +kernel
theorem dX8_times_38 : decode cX8_times 38 = .ok (.ldc2_w 267, 3) := by decide +kernel
theorem dX8_times_41 : decode cX8_times 41 = .ok (.lcmp, 1) := by decide +kernel
theorem dX8_times_42 : decode cX8_times 42 = .ok (.ifCond .eq 26, 3) := by decide +kernel
theorem dX8_times_45 : decode cX8_times 45 = .ok (.lload_n 3, 1) := by decide +kernel
theorem dX8_times_46 : decode cX8_times 46 = .ok (.lconst 0, 1) := by decide +kernel
theorem dX8_times_47 : decode cX8_times 47 = .ok (.lcmp, 1) := by decide +kernel
theorem dX8_times_48 : decode cX8_times 48 = .ok (.ifCond .eq 24, 3) := by decide +kernel
theorem dX8_times_51 : decode cX8_times 51 = .ok (.lload_n 3, 1) := by decide +kernel
theorem dX8_times_52 : decode cX8_times 52 = .ok (.ldc2_w 269, 3) := by decide +kernel
theorem dX8_times_55 : decode cX8_times 55 = .ok (.lcmp, 1) := by decide +kernel
theorem dX8_times_56 : decode cX8_times 56 = .ok (.ifCond .eq 16, 3) := by decide +kernel
theorem dX8_times_59 : decode cX8_times 59 = .ok (.lload 5, 2) := by decide +kernel
theorem dX8_times_61 : decode cX8_times 61 = .ok (.lload_n 3, 1) := by decide +kernel
theorem dX8_times_62 : decode cX8_times 62 = .ok (.ldiv, 1) := by decide +kernel
theorem dX8_times_63 : decode cX8_times 63 = .ok (.lload_n 1, 1) := by decide +kernel
theorem dX8_times_64 : decode cX8_times 64 = .ok (.lcmp, 1) := by decide +kernel
theorem dX8_times_65 : decode cX8_times 65 = .ok (.ifCond .eq 7, 3) := by decide +kernel
theorem dX8_times_68 : decode cX8_times 68 = .ok (.iconst 1, 1) := by decide +kernel
theorem dX8_times_69 : decode cX8_times 69 = .ok (.goto 4, 3) := by decide +kernel
theorem dX8_times_72 : decode cX8_times 72 = .ok (.iconst 0, 1) := by decide +kernel
theorem dX8_times_73 : decode cX8_times 73 = .ok (.putfield 278, 3) := by decide +kernel
theorem dX8_times_76 : decode cX8_times 76 = .ok (.lload 5, 2) := by decide +kernel
theorem dX8_times_78 : decode cX8_times 78 = .ok (.lreturn, 1) := by decide +kernel
def f_X8_times (N : Nat) (x1 : Int64) (x3 : Int64) (M : Mem) : Option (Int64 × Mem) := nm (x1 * x3) (fun v1 => jn (fun (a73 : Int32) => ck (a73 = 0 ∨ a73 = 1) (nm (setI M 0 29 a73) (fun M2 => some (v1, M2)))) (fun (k73 : Int32 → Option (Int64 × Mem)) => jn (fun (a68 : Unit) => k73 (1 : Int32)) (fun (k68 : Unit → Option (Int64 × Mem)) => if (M.1 0 29) = 0 then (jn (fun (a29 : Unit) => jn (fun (a45 : Unit) => jn (fun (a72 : Unit) => k73 (0 : Int32)) (fun (k72 : Unit → Option (Int64 × Mem)) => if (lg_cmp x3 (0 : Int64)) = 0 then (k72 ()) else (if (lg_cmp x3 (-1 : Int64)) = 0 then (k72 ()) else (ck (¬ x3 = 0) (if (lg_cmp (v1 / x3) x1) = 0 then (k72 ()) else (k68 ())))))) (fun (k45 : Unit → Option (Int64 × Mem)) => if (lg_cmp x3 (-1 : Int64)) = 0 then (if (lg_cmp x1 (-9223372036854775808 : Int64)) = 0 then (k68 ()) else (k45 ())) else (k45 ()))) (fun (k29 : Unit → Option (Int64 × Mem)) => if (lg_cmp x1 (-1 : Int64)) = 0 then (if (lg_cmp x3 (-9223372036854775808 : Int64)) = 0 then (k68 ()) else (k29 ())) else (k29 ()))) else (k68 ()))))
set_option maxRecDepth 100000 in
set_option maxHeartbeats 4000000 in
theorem c_X8_times {l : Launch} {D : va_G} {ac : Nat → ClassId} {A : Nat → Prop} {ad : Nat → Nat} {rest : va_W} (N : Nat) (x1 : Int64) (x3 : Int64)  (M : Mem) (r0 : Int64) (M0 : Mem) (hf : f_X8_times N x1 x3 M = some (r0, M0)) : CtJ l D ac A tabM ad rest yX8_times cX8_times 7  1 [.ref (ad 0), .long x1, .long x3] M r0 M0 := by
  refine ct_ofJ (own := RX8) (by decide +kernel) rfl (Nat.le_of_ble_eq_true rfl) ?_
  intro p e s m args below meth c C
  unfold f_X8_times at hf
  refine a_L (L' := [(0, .ref (ad 0)), (1, .long x1), (3, .long x3)]) rfl ?_
  refine a_lload_n (pc := 0) C dX8_times_0 1 rfl ?_
  refine a_lload_n (pc := 1) C dX8_times_1 2 rfl ?_
  refine a_lmul (pc := 2) C dX8_times_2 ?_
  refine a_nml hf (fun v1 hf => ?_)
  refine a_lstore (pc := 3) [(5, .long v1), (0, .ref (ad 0)), (1, .long x1), (3, .long x3)] C dX8_times_3 (by decide) rfl ?_
  refine a_aload_n (pc := 5) C dX8_times_5 1 rfl ?_
  refine a_aload_n (pc := 6) C dX8_times_6 1 rfl ?_
  refine a_getI (pc := 7) C dX8_times_7 fl_X8_278 tm_0 rfl ?_
  refine a_jn 73 (fun a73 : Int32 => [(5, .long v1)]) (fun a73 : Int32 => [.int a73, .ref (ad 0)]) (fun a73 : Int32 => M) hf (fun a73 hf => ?_) (fun k73 hk73 hf => ?_)
  · refine a_putZ (pc := 73) C dX8_times_73 fl_X8_278 tm_0 rfl hf (fun M2 hf => ?_)
    refine a_lload (pc := 76) C dX8_times_76 0 rfl ?_
    exact a_lret (pc := 78) C dX8_times_78 (so_1 hf) (so_2 hf)
  · refine a_jn 68 (fun a68 : Unit => [(5, .long v1)]) (fun a68 : Unit => [.ref (ad 0)]) (fun a68 : Unit => M) hf (fun a68 hf => ?_) (fun k68 hk68 hf => ?_)
    · refine a_iconst (pc := 68) (v := 1) C dX8_times_68 (by decide) ?_
      refine a_goto (pc := 69) 73 C dX8_times_69 (by decide) ?_
      exact a_sub [0] rfl (hk73 (1 : Int32) hf)
    · refine a_if_ne (pc := 10) 68 C dX8_times_10 (by decide) hf (fun hf => ?_) (fun hf => ?_)
      · exact a_sub [0] rfl (hk68 () hf)
      · refine a_lload_n (pc := 13) C dX8_times_13 2 rfl ?_
        refine a_ldc2 (pc := 14) C dX8_times_14 cj_X8_269 ?_
        refine a_lcmp (pc := 17) C dX8_times_17 ?_
        refine a_jn 29 (fun a29 : Unit => [(1, .long x1), (3, .long x3), (5, .long v1)]) (fun a29 : Unit => [.ref (ad 0)]) (fun a29 : Unit => M) hf (fun a29 hf => ?_) (fun k29 hk29 hf => ?_)
        · refine a_lload_n (pc := 29) C dX8_times_29 1 rfl ?_
          refine a_ldc2 (pc := 30) C dX8_times_30 cj_X8_269 ?_
          refine a_lcmp (pc := 33) C dX8_times_33 ?_
          refine a_jn 45 (fun a45 : Unit => [(1, .long x1), (3, .long x3), (5, .long v1)]) (fun a45 : Unit => [.ref (ad 0)]) (fun a45 : Unit => M) hf (fun a45 hf => ?_) (fun k45 hk45 hf => ?_)
          · refine a_lload_n (pc := 45) C dX8_times_45 1 rfl ?_
            refine a_lconst (pc := 46) (v := 0) C dX8_times_46 (by decide) ?_
            refine a_lcmp (pc := 47) C dX8_times_47 ?_
            refine a_jn 72 (fun a72 : Unit => [(5, .long v1)]) (fun a72 : Unit => [.ref (ad 0)]) (fun a72 : Unit => M) hf (fun a72 hf => ?_) (fun k72 hk72 hf => ?_)
            · refine a_iconst (pc := 72) (v := 0) C dX8_times_72 (by decide) ?_
              exact a_sub [0] rfl (hk73 (0 : Int32) hf)
            · refine a_if_eq (pc := 48) 72 C dX8_times_48 (by decide) hf (fun hf => ?_) (fun hf => ?_)
              · exact a_sub [2] rfl (hk72 () hf)
              · refine a_lload_n (pc := 51) C dX8_times_51 1 rfl ?_
                refine a_ldc2 (pc := 52) C dX8_times_52 cj_X8_269 ?_
                refine a_lcmp (pc := 55) C dX8_times_55 ?_
                refine a_if_eq (pc := 56) 72 C dX8_times_56 (by decide) hf (fun hf => ?_) (fun hf => ?_)
                · exact a_sub [2] rfl (hk72 () hf)
                · refine a_lload (pc := 59) C dX8_times_59 2 rfl ?_
                  refine a_lload_n (pc := 61) C dX8_times_61 1 rfl ?_
                  refine a_ldiv (pc := 62) C dX8_times_62 hf (fun hf => ?_)
                  refine a_lload_n (pc := 63) C dX8_times_63 0 rfl ?_
                  refine a_lcmp (pc := 64) C dX8_times_64 ?_
                  refine a_if_eq (pc := 65) 72 C dX8_times_65 (by decide) hf (fun hf => ?_) (fun hf => ?_)
                  · exact a_sub [2] rfl (hk72 () hf)
                  · exact a_sub [2] rfl (hk68 () hf)
          · refine a_if_ne (pc := 34) 45 C dX8_times_34 (by decide) hf (fun hf => ?_) (fun hf => ?_)
            · exact a_sub [0, 1, 2] rfl (hk45 () hf)
            · refine a_lload_n (pc := 37) C dX8_times_37 0 rfl ?_
              refine a_ldc2 (pc := 38) C dX8_times_38 cj_X8_267 ?_
              refine a_lcmp (pc := 41) C dX8_times_41 ?_
              refine a_if_eq (pc := 42) 68 C dX8_times_42 (by decide) hf (fun hf => ?_) (fun hf => ?_)
              · exact a_sub [2] rfl (hk68 () hf)
              · exact a_sub [0, 1, 2] rfl (hk45 () hf)
        · refine a_if_ne (pc := 18) 29 C dX8_times_18 (by decide) hf (fun hf => ?_) (fun hf => ?_)
          · exact a_sub [2, 3, 0] rfl (hk29 () hf)
          · refine a_lload_n (pc := 21) C dX8_times_21 3 rfl ?_
            refine a_ldc2 (pc := 22) C dX8_times_22 cj_X8_267 ?_
            refine a_lcmp (pc := 25) C dX8_times_25 ?_
            refine a_if_eq (pc := 26) 68 C dX8_times_26 (by decide) hf (fun hf => ?_) (fun hf => ?_)
            · exact a_sub [0] rfl (hk68 () hf)
            · exact a_sub [2, 3, 0] rfl (hk29 () hf)
theorem dX8_plus_0 : decode cX8_plus 0 = .ok (.lload_n 1, 1) := by decide +kernel
theorem dX8_plus_1 : decode cX8_plus 1 = .ok (.lload_n 3, 1) := by decide +kernel
theorem dX8_plus_2 : decode cX8_plus 2 = .ok (.ladd, 1) := by decide +kernel
theorem dX8_plus_3 : decode cX8_plus 3 = .ok (.lstore 5, 2) := by decide +kernel
theorem dX8_plus_5 : decode cX8_plus 5 = .ok (.aload_n 0, 1) := by decide +kernel
theorem dX8_plus_6 : decode cX8_plus 6 = .ok (.aload_n 0, 1) := by decide +kernel
theorem dX8_plus_7 : decode cX8_plus 7 = .ok (.getfield 278, 3) := by decide +kernel
theorem dX8_plus_10 : decode cX8_plus 10 = .ok (.ifCond .ne 54, 3) := by decide +kernel
theorem dX8_plus_13 : decode cX8_plus 13 = .ok (.lload_n 1, 1) := by decide +kernel
theorem dX8_plus_14 : decode cX8_plus 14 = .ok (.lconst 0, 1) := by decide +kernel
theorem dX8_plus_15 : decode cX8_plus 15 = .ok (.lcmp, 1) := by decide +kernel
theorem dX8_plus_16 : decode cX8_plus 16 = .ok (.ifCond .ge 7, 3) := by decide +kernel
theorem dX8_plus_19 : decode cX8_plus 19 = .ok (.iconst 1, 1) := by decide +kernel
theorem dX8_plus_20 : decode cX8_plus 20 = .ok (.goto 4, 3) := by decide +kernel
theorem dX8_plus_23 : decode cX8_plus 23 = .ok (.iconst 0, 1) := by decide +kernel
theorem dX8_plus_24 : decode cX8_plus 24 = .ok (.lload_n 3, 1) := by decide +kernel
theorem dX8_plus_25 : decode cX8_plus 25 = .ok (.lconst 0, 1) := by decide +kernel
theorem dX8_plus_26 : decode cX8_plus 26 = .ok (.lcmp, 1) := by decide +kernel
theorem dX8_plus_27 : decode cX8_plus 27 = .ok (.ifCond .ge 7, 3) := by decide +kernel
theorem dX8_plus_30 : decode cX8_plus 30 = .ok (.iconst 1, 1) := by decide +kernel
theorem dX8_plus_31 : decode cX8_plus 31 = .ok (.goto 4, 3) := by decide +kernel
theorem dX8_plus_34 : decode cX8_plus 34 = .ok (.iconst 0, 1) := by decide +kernel
theorem dX8_plus_35 : decode cX8_plus 35 = .ok (.if_icmp .ne 33, 3) := by decide +kernel
theorem dX8_plus_38 : decode cX8_plus 38 = .ok (.lload 5, 2) := by decide +kernel
theorem dX8_plus_40 : decode cX8_plus 40 = .ok (.lconst 0, 1) := by decide +kernel
theorem dX8_plus_41 : decode cX8_plus 41 = .ok (.lcmp, 1) := by decide +kernel
theorem dX8_plus_42 : decode cX8_plus 42 = .ok (.ifCond .ge 7, 3) := by decide +kernel
theorem dX8_plus_45 : decode cX8_plus 45 = .ok (.iconst 1, 1) := by decide +kernel
theorem dX8_plus_46 : decode cX8_plus 46 = .ok (.goto 4, 3) := by decide +kernel
theorem dX8_plus_49 : decode cX8_plus 49 = .ok (.iconst 0, 1) := by decide +kernel
theorem dX8_plus_50 : decode cX8_plus 50 = .ok (.lload_n 1, 1) := by decide +kernel
theorem dX8_plus_51 : decode cX8_plus 51 = .ok (.lconst 0, 1) := by decide +kernel
theorem dX8_plus_52 : decode cX8_plus 52 = .ok (.lcmp, 1) := by decide +kernel
theorem dX8_plus_53 : decode cX8_plus 53 = .ok (.ifCond .ge 7, 3) := by decide +kernel
theorem dX8_plus_56 : decode cX8_plus 56 = .ok (.iconst 1, 1) := by decide +kernel
theorem dX8_plus_57 : decode cX8_plus 57 = .ok (.goto 4, 3) := by decide +kernel
theorem dX8_plus_60 : decode cX8_plus 60 = .ok (.iconst 0, 1) := by decide +kernel
theorem dX8_plus_61 : decode cX8_plus 61 = .ok (.if_icmp .eq 7, 3) := by decide +kernel
theorem dX8_plus_64 : decode cX8_plus 64 = .ok (.iconst 1, 1) := by decide +kernel
theorem dX8_plus_65 : decode cX8_plus 65 = .ok (.goto 4, 3) := by decide +kernel
theorem dX8_plus_68 : decode cX8_plus 68 = .ok (.iconst 0, 1) := by decide +kernel
theorem dX8_plus_69 : decode cX8_plus 69 = .ok (.putfield 278, 3) := by decide +kernel
theorem dX8_plus_72 : decode cX8_plus 72 = .ok (.lload 5, 2) := by decide +kernel
theorem dX8_plus_74 : decode cX8_plus 74 = .ok (.lreturn, 1) := by decide +kernel
def f_X8_plus (N : Nat) (x1 : Int64) (x3 : Int64) (M : Mem) : Option (Int64 × Mem) := nm (x1 + x3) (fun v1 => jn (fun (a69 : Int32) => ck (a69 = 0 ∨ a69 = 1) (nm (setI M 0 29 a69) (fun M2 => some (v1, M2)))) (fun (k69 : Int32 → Option (Int64 × Mem)) => jn (fun (a64 : Unit) => k69 (1 : Int32)) (fun (k64 : Unit → Option (Int64 × Mem)) => if (M.1 0 29) = 0 then (jn (fun (a24 : Int32) => jn (fun (a35 : Int32) => jn (fun (a68 : Unit) => k69 (0 : Int32)) (fun (k68 : Unit → Option (Int64 × Mem)) => if a24 = a35 then (jn (fun (a50 : Int32) => jn (fun (a61 : Int32) => if a50 = a61 then (k68 ()) else (k64 ())) (fun (k61 : Int32 → Option (Int64 × Mem)) => if 0 ≤ (lg_cmp x1 (0 : Int64)) then (k61 (0 : Int32)) else (k61 (1 : Int32)))) (fun (k50 : Int32 → Option (Int64 × Mem)) => if 0 ≤ (lg_cmp v1 (0 : Int64)) then (k50 (0 : Int32)) else (k50 (1 : Int32)))) else (k68 ()))) (fun (k35 : Int32 → Option (Int64 × Mem)) => if 0 ≤ (lg_cmp x3 (0 : Int64)) then (k35 (0 : Int32)) else (k35 (1 : Int32)))) (fun (k24 : Int32 → Option (Int64 × Mem)) => if 0 ≤ (lg_cmp x1 (0 : Int64)) then (k24 (0 : Int32)) else (k24 (1 : Int32)))) else (k64 ()))))
set_option maxRecDepth 100000 in
set_option maxHeartbeats 4000000 in
theorem c_X8_plus {l : Launch} {D : va_G} {ac : Nat → ClassId} {A : Nat → Prop} {ad : Nat → Nat} {rest : va_W} (N : Nat) (x1 : Int64) (x3 : Int64)  (M : Mem) (r0 : Int64) (M0 : Mem) (hf : f_X8_plus N x1 x3 M = some (r0, M0)) : CtJ l D ac A tabM ad rest yX8_plus cX8_plus 7  1 [.ref (ad 0), .long x1, .long x3] M r0 M0 := by
  refine ct_ofJ (own := RX8) (by decide +kernel) rfl (Nat.le_of_ble_eq_true rfl) ?_
  intro p e s m args below meth c C
  unfold f_X8_plus at hf
  refine a_L (L' := [(0, .ref (ad 0)), (1, .long x1), (3, .long x3)]) rfl ?_
  refine a_lload_n (pc := 0) C dX8_plus_0 1 rfl ?_
  refine a_lload_n (pc := 1) C dX8_plus_1 2 rfl ?_
  refine a_ladd (pc := 2) C dX8_plus_2 ?_
  refine a_nml hf (fun v1 hf => ?_)
  refine a_lstore (pc := 3) [(5, .long v1), (0, .ref (ad 0)), (1, .long x1), (3, .long x3)] C dX8_plus_3 (by decide) rfl ?_
  refine a_aload_n (pc := 5) C dX8_plus_5 1 rfl ?_
  refine a_aload_n (pc := 6) C dX8_plus_6 1 rfl ?_
  refine a_getI (pc := 7) C dX8_plus_7 fl_X8_278 tm_0 rfl ?_
  refine a_jn 69 (fun a69 : Int32 => [(5, .long v1)]) (fun a69 : Int32 => [.int a69, .ref (ad 0)]) (fun a69 : Int32 => M) hf (fun a69 hf => ?_) (fun k69 hk69 hf => ?_)
  · refine a_putZ (pc := 69) C dX8_plus_69 fl_X8_278 tm_0 rfl hf (fun M2 hf => ?_)
    refine a_lload (pc := 72) C dX8_plus_72 0 rfl ?_
    exact a_lret (pc := 74) C dX8_plus_74 (so_1 hf) (so_2 hf)
  · refine a_jn 64 (fun a64 : Unit => [(5, .long v1)]) (fun a64 : Unit => [.ref (ad 0)]) (fun a64 : Unit => M) hf (fun a64 hf => ?_) (fun k64 hk64 hf => ?_)
    · refine a_iconst (pc := 64) (v := 1) C dX8_plus_64 (by decide) ?_
      refine a_goto (pc := 65) 69 C dX8_plus_65 (by decide) ?_
      exact a_sub [0] rfl (hk69 (1 : Int32) hf)
    · refine a_if_ne (pc := 10) 64 C dX8_plus_10 (by decide) hf (fun hf => ?_) (fun hf => ?_)
      · exact a_sub [0] rfl (hk64 () hf)
      · refine a_lload_n (pc := 13) C dX8_plus_13 2 rfl ?_
        refine a_lconst (pc := 14) (v := 0) C dX8_plus_14 (by decide) ?_
        refine a_lcmp (pc := 15) C dX8_plus_15 ?_
        refine a_jn 24 (fun a24 : Int32 => [(1, .long x1), (3, .long x3), (5, .long v1)]) (fun a24 : Int32 => [.int a24, .ref (ad 0)]) (fun a24 : Int32 => M) hf (fun a24 hf => ?_) (fun k24 hk24 hf => ?_)
        · refine a_lload_n (pc := 24) C dX8_plus_24 1 rfl ?_
          refine a_lconst (pc := 25) (v := 0) C dX8_plus_25 (by decide) ?_
          refine a_lcmp (pc := 26) C dX8_plus_26 ?_
          refine a_jn 35 (fun a35 : Int32 => [(1, .long x1), (5, .long v1)]) (fun a35 : Int32 => [.int a35, .int a24, .ref (ad 0)]) (fun a35 : Int32 => M) hf (fun a35 hf => ?_) (fun k35 hk35 hf => ?_)
          · refine a_jn 68 (fun a68 : Unit => [(5, .long v1)]) (fun a68 : Unit => [.ref (ad 0)]) (fun a68 : Unit => M) hf (fun a68 hf => ?_) (fun k68 hk68 hf => ?_)
            · refine a_iconst (pc := 68) (v := 0) C dX8_plus_68 (by decide) ?_
              exact a_sub [0] rfl (hk69 (0 : Int32) hf)
            · refine a_icmp_ne (pc := 35) 68 C dX8_plus_35 (by decide) hf (fun hf => ?_) (fun hf => ?_)
              · exact a_sub [1] rfl (hk68 () hf)
              · refine a_lload (pc := 38) C dX8_plus_38 1 rfl ?_
                refine a_lconst (pc := 40) (v := 0) C dX8_plus_40 (by decide) ?_
                refine a_lcmp (pc := 41) C dX8_plus_41 ?_
                refine a_jn 50 (fun a50 : Int32 => [(1, .long x1), (5, .long v1)]) (fun a50 : Int32 => [.int a50, .ref (ad 0)]) (fun a50 : Int32 => M) hf (fun a50 hf => ?_) (fun k50 hk50 hf => ?_)
                · refine a_lload_n (pc := 50) C dX8_plus_50 0 rfl ?_
                  refine a_lconst (pc := 51) (v := 0) C dX8_plus_51 (by decide) ?_
                  refine a_lcmp (pc := 52) C dX8_plus_52 ?_
                  refine a_jn 61 (fun a61 : Int32 => [(5, .long v1)]) (fun a61 : Int32 => [.int a61, .int a50, .ref (ad 0)]) (fun a61 : Int32 => M) hf (fun a61 hf => ?_) (fun k61 hk61 hf => ?_)
                  · refine a_icmp_eq (pc := 61) 68 C dX8_plus_61 (by decide) hf (fun hf => ?_) (fun hf => ?_)
                    · exact a_sub [0] rfl (hk68 () hf)
                    · exact a_sub [0] rfl (hk64 () hf)
                  · refine a_if_ge (pc := 53) 60 C dX8_plus_53 (by decide) hf (fun hf => ?_) (fun hf => ?_)
                    · refine a_iconst (pc := 60) (v := 0) C dX8_plus_60 (by decide) ?_
                      exact a_sub [1] rfl (hk61 (0 : Int32) hf)
                    · refine a_iconst (pc := 56) (v := 1) C dX8_plus_56 (by decide) ?_
                      refine a_goto (pc := 57) 61 C dX8_plus_57 (by decide) ?_
                      exact a_sub [1] rfl (hk61 (1 : Int32) hf)
                · refine a_if_ge (pc := 42) 49 C dX8_plus_42 (by decide) hf (fun hf => ?_) (fun hf => ?_)
                  · refine a_iconst (pc := 49) (v := 0) C dX8_plus_49 (by decide) ?_
                    exact a_sub [0, 1] rfl (hk50 (0 : Int32) hf)
                  · refine a_iconst (pc := 45) (v := 1) C dX8_plus_45 (by decide) ?_
                    refine a_goto (pc := 46) 50 C dX8_plus_46 (by decide) ?_
                    exact a_sub [0, 1] rfl (hk50 (1 : Int32) hf)
          · refine a_if_ge (pc := 27) 34 C dX8_plus_27 (by decide) hf (fun hf => ?_) (fun hf => ?_)
            · refine a_iconst (pc := 34) (v := 0) C dX8_plus_34 (by decide) ?_
              exact a_sub [0, 2] rfl (hk35 (0 : Int32) hf)
            · refine a_iconst (pc := 30) (v := 1) C dX8_plus_30 (by decide) ?_
              refine a_goto (pc := 31) 35 C dX8_plus_31 (by decide) ?_
              exact a_sub [0, 2] rfl (hk35 (1 : Int32) hf)
        · refine a_if_ge (pc := 16) 23 C dX8_plus_16 (by decide) hf (fun hf => ?_) (fun hf => ?_)
          · refine a_iconst (pc := 23) (v := 0) C dX8_plus_23 (by decide) ?_
            exact a_sub [2, 3, 0] rfl (hk24 (0 : Int32) hf)
          · refine a_iconst (pc := 19) (v := 1) C dX8_plus_19 (by decide) ?_
            refine a_goto (pc := 20) 24 C dX8_plus_20 (by decide) ?_
            exact a_sub [2, 3, 0] rfl (hk24 (1 : Int32) hf)
theorem dX8_minus_0 : decode cX8_minus 0 = .ok (.lload_n 1, 1) := by decide +kernel
theorem dX8_minus_1 : decode cX8_minus 1 = .ok (.lload_n 3, 1) := by decide +kernel
theorem dX8_minus_2 : decode cX8_minus 2 = .ok (.lsub, 1) := by decide +kernel
theorem dX8_minus_3 : decode cX8_minus 3 = .ok (.lstore 5, 2) := by decide +kernel
theorem dX8_minus_5 : decode cX8_minus 5 = .ok (.aload_n 0, 1) := by decide +kernel
theorem dX8_minus_6 : decode cX8_minus 6 = .ok (.aload_n 0, 1) := by decide +kernel
theorem dX8_minus_7 : decode cX8_minus 7 = .ok (.getfield 278, 3) := by decide +kernel
theorem dX8_minus_10 : decode cX8_minus 10 = .ok (.ifCond .ne 54, 3) := by decide +kernel
theorem dX8_minus_13 : decode cX8_minus 13 = .ok (.lload_n 1, 1) := by decide +kernel
theorem dX8_minus_14 : decode cX8_minus 14 = .ok (.lconst 0, 1) := by decide +kernel
theorem dX8_minus_15 : decode cX8_minus 15 = .ok (.lcmp, 1) := by decide +kernel
theorem dX8_minus_16 : decode cX8_minus 16 = .ok (.ifCond .ge 7, 3) := by decide +kernel
theorem dX8_minus_19 : decode cX8_minus 19 = .ok (.iconst 1, 1) := by decide +kernel
theorem dX8_minus_20 : decode cX8_minus 20 = .ok (.goto 4, 3) := by decide +kernel
theorem dX8_minus_23 : decode cX8_minus 23 = .ok (.iconst 0, 1) := by decide +kernel
theorem dX8_minus_24 : decode cX8_minus 24 = .ok (.lload_n 3, 1) := by decide +kernel
theorem dX8_minus_25 : decode cX8_minus 25 = .ok (.lconst 0, 1) := by decide +kernel
theorem dX8_minus_26 : decode cX8_minus 26 = .ok (.lcmp, 1) := by decide +kernel
theorem dX8_minus_27 : decode cX8_minus 27 = .ok (.ifCond .ge 7, 3) := by decide +kernel
theorem dX8_minus_30 : decode cX8_minus 30 = .ok (.iconst 1, 1) := by decide +kernel
theorem dX8_minus_31 : decode cX8_minus 31 = .ok (.goto 4, 3) := by decide +kernel
theorem dX8_minus_34 : decode cX8_minus 34 = .ok (.iconst 0, 1) := by decide +kernel
theorem dX8_minus_35 : decode cX8_minus 35 = .ok (.if_icmp .eq 33, 3) := by decide +kernel
theorem dX8_minus_38 : decode cX8_minus 38 = .ok (.lload 5, 2) := by decide +kernel
theorem dX8_minus_40 : decode cX8_minus 40 = .ok (.lconst 0, 1) := by decide +kernel
theorem dX8_minus_41 : decode cX8_minus 41 = .ok (.lcmp, 1) := by decide +kernel
theorem dX8_minus_42 : decode cX8_minus 42 = .ok (.ifCond .ge 7, 3) := by decide +kernel
theorem dX8_minus_45 : decode cX8_minus 45 = .ok (.iconst 1, 1) := by decide +kernel
theorem dX8_minus_46 : decode cX8_minus 46 = .ok (.goto 4, 3) := by decide +kernel
theorem dX8_minus_49 : decode cX8_minus 49 = .ok (.iconst 0, 1) := by decide +kernel
theorem dX8_minus_50 : decode cX8_minus 50 = .ok (.lload_n 1, 1) := by decide +kernel
theorem dX8_minus_51 : decode cX8_minus 51 = .ok (.lconst 0, 1) := by decide +kernel
theorem dX8_minus_52 : decode cX8_minus 52 = .ok (.lcmp, 1) := by decide +kernel
theorem dX8_minus_53 : decode cX8_minus 53 = .ok (.ifCond .ge 7, 3) := by decide +kernel
theorem dX8_minus_56 : decode cX8_minus 56 = .ok (.iconst 1, 1) := by decide +kernel
theorem dX8_minus_57 : decode cX8_minus 57 = .ok (.goto 4, 3) := by decide +kernel
theorem dX8_minus_60 : decode cX8_minus 60 = .ok (.iconst 0, 1) := by decide +kernel
theorem dX8_minus_61 : decode cX8_minus 61 = .ok (.if_icmp .eq 7, 3) := by decide +kernel
theorem dX8_minus_64 : decode cX8_minus 64 = .ok (.iconst 1, 1) := by decide +kernel
theorem dX8_minus_65 : decode cX8_minus 65 = .ok (.goto 4, 3) := by decide +kernel
theorem dX8_minus_68 : decode cX8_minus 68 = .ok (.iconst 0, 1) := by decide +kernel
theorem dX8_minus_69 : decode cX8_minus 69 = .ok (.putfield 278, 3) := by decide +kernel
theorem dX8_minus_72 : decode cX8_minus 72 = .ok (.lload 5, 2) := by decide +kernel
theorem dX8_minus_74 : decode cX8_minus 74 = .ok (.lreturn, 1) := by decide +kernel
def f_X8_minus (N : Nat) (x1 : Int64) (x3 : Int64) (M : Mem) : Option (Int64 × Mem) := nm (x1 - x3) (fun v1 => jn (fun (a69 : Int32) => ck (a69 = 0 ∨ a69 = 1) (nm (setI M 0 29 a69) (fun M2 => some (v1, M2)))) (fun (k69 : Int32 → Option (Int64 × Mem)) => jn (fun (a64 : Unit) => k69 (1 : Int32)) (fun (k64 : Unit → Option (Int64 × Mem)) => if (M.1 0 29) = 0 then (jn (fun (a24 : Int32) => jn (fun (a35 : Int32) => jn (fun (a68 : Unit) => k69 (0 : Int32)) (fun (k68 : Unit → Option (Int64 × Mem)) => if a24 = a35 then (k68 ()) else (jn (fun (a50 : Int32) => jn (fun (a61 : Int32) => if a50 = a61 then (k68 ()) else (k64 ())) (fun (k61 : Int32 → Option (Int64 × Mem)) => if 0 ≤ (lg_cmp x1 (0 : Int64)) then (k61 (0 : Int32)) else (k61 (1 : Int32)))) (fun (k50 : Int32 → Option (Int64 × Mem)) => if 0 ≤ (lg_cmp v1 (0 : Int64)) then (k50 (0 : Int32)) else (k50 (1 : Int32)))))) (fun (k35 : Int32 → Option (Int64 × Mem)) => if 0 ≤ (lg_cmp x3 (0 : Int64)) then (k35 (0 : Int32)) else (k35 (1 : Int32)))) (fun (k24 : Int32 → Option (Int64 × Mem)) => if 0 ≤ (lg_cmp x1 (0 : Int64)) then (k24 (0 : Int32)) else (k24 (1 : Int32)))) else (k64 ()))))
set_option maxRecDepth 100000 in
set_option maxHeartbeats 4000000 in
theorem c_X8_minus {l : Launch} {D : va_G} {ac : Nat → ClassId} {A : Nat → Prop} {ad : Nat → Nat} {rest : va_W} (N : Nat) (x1 : Int64) (x3 : Int64)  (M : Mem) (r0 : Int64) (M0 : Mem) (hf : f_X8_minus N x1 x3 M = some (r0, M0)) : CtJ l D ac A tabM ad rest yX8_minus cX8_minus 7  1 [.ref (ad 0), .long x1, .long x3] M r0 M0 := by
  refine ct_ofJ (own := RX8) (by decide +kernel) rfl (Nat.le_of_ble_eq_true rfl) ?_
  intro p e s m args below meth c C
  unfold f_X8_minus at hf
  refine a_L (L' := [(0, .ref (ad 0)), (1, .long x1), (3, .long x3)]) rfl ?_
  refine a_lload_n (pc := 0) C dX8_minus_0 1 rfl ?_
  refine a_lload_n (pc := 1) C dX8_minus_1 2 rfl ?_
  refine a_lsub (pc := 2) C dX8_minus_2 ?_
  refine a_nml hf (fun v1 hf => ?_)
  refine a_lstore (pc := 3) [(5, .long v1), (0, .ref (ad 0)), (1, .long x1), (3, .long x3)] C dX8_minus_3 (by decide) rfl ?_
  refine a_aload_n (pc := 5) C dX8_minus_5 1 rfl ?_
  refine a_aload_n (pc := 6) C dX8_minus_6 1 rfl ?_
  refine a_getI (pc := 7) C dX8_minus_7 fl_X8_278 tm_0 rfl ?_
  refine a_jn 69 (fun a69 : Int32 => [(5, .long v1)]) (fun a69 : Int32 => [.int a69, .ref (ad 0)]) (fun a69 : Int32 => M) hf (fun a69 hf => ?_) (fun k69 hk69 hf => ?_)
  · refine a_putZ (pc := 69) C dX8_minus_69 fl_X8_278 tm_0 rfl hf (fun M2 hf => ?_)
    refine a_lload (pc := 72) C dX8_minus_72 0 rfl ?_
    exact a_lret (pc := 74) C dX8_minus_74 (so_1 hf) (so_2 hf)
  · refine a_jn 64 (fun a64 : Unit => [(5, .long v1)]) (fun a64 : Unit => [.ref (ad 0)]) (fun a64 : Unit => M) hf (fun a64 hf => ?_) (fun k64 hk64 hf => ?_)
    · refine a_iconst (pc := 64) (v := 1) C dX8_minus_64 (by decide) ?_
      refine a_goto (pc := 65) 69 C dX8_minus_65 (by decide) ?_
      exact a_sub [0] rfl (hk69 (1 : Int32) hf)
    · refine a_if_ne (pc := 10) 64 C dX8_minus_10 (by decide) hf (fun hf => ?_) (fun hf => ?_)
      · exact a_sub [0] rfl (hk64 () hf)
      · refine a_lload_n (pc := 13) C dX8_minus_13 2 rfl ?_
        refine a_lconst (pc := 14) (v := 0) C dX8_minus_14 (by decide) ?_
        refine a_lcmp (pc := 15) C dX8_minus_15 ?_
        refine a_jn 24 (fun a24 : Int32 => [(1, .long x1), (3, .long x3), (5, .long v1)]) (fun a24 : Int32 => [.int a24, .ref (ad 0)]) (fun a24 : Int32 => M) hf (fun a24 hf => ?_) (fun k24 hk24 hf => ?_)
        · refine a_lload_n (pc := 24) C dX8_minus_24 1 rfl ?_
          refine a_lconst (pc := 25) (v := 0) C dX8_minus_25 (by decide) ?_
          refine a_lcmp (pc := 26) C dX8_minus_26 ?_
          refine a_jn 35 (fun a35 : Int32 => [(1, .long x1), (5, .long v1)]) (fun a35 : Int32 => [.int a35, .int a24, .ref (ad 0)]) (fun a35 : Int32 => M) hf (fun a35 hf => ?_) (fun k35 hk35 hf => ?_)
          · refine a_jn 68 (fun a68 : Unit => [(5, .long v1)]) (fun a68 : Unit => [.ref (ad 0)]) (fun a68 : Unit => M) hf (fun a68 hf => ?_) (fun k68 hk68 hf => ?_)
            · refine a_iconst (pc := 68) (v := 0) C dX8_minus_68 (by decide) ?_
              exact a_sub [0] rfl (hk69 (0 : Int32) hf)
            · refine a_icmp_eq (pc := 35) 68 C dX8_minus_35 (by decide) hf (fun hf => ?_) (fun hf => ?_)
              · exact a_sub [1] rfl (hk68 () hf)
              · refine a_lload (pc := 38) C dX8_minus_38 1 rfl ?_
                refine a_lconst (pc := 40) (v := 0) C dX8_minus_40 (by decide) ?_
                refine a_lcmp (pc := 41) C dX8_minus_41 ?_
                refine a_jn 50 (fun a50 : Int32 => [(1, .long x1), (5, .long v1)]) (fun a50 : Int32 => [.int a50, .ref (ad 0)]) (fun a50 : Int32 => M) hf (fun a50 hf => ?_) (fun k50 hk50 hf => ?_)
                · refine a_lload_n (pc := 50) C dX8_minus_50 0 rfl ?_
                  refine a_lconst (pc := 51) (v := 0) C dX8_minus_51 (by decide) ?_
                  refine a_lcmp (pc := 52) C dX8_minus_52 ?_
                  refine a_jn 61 (fun a61 : Int32 => [(5, .long v1)]) (fun a61 : Int32 => [.int a61, .int a50, .ref (ad 0)]) (fun a61 : Int32 => M) hf (fun a61 hf => ?_) (fun k61 hk61 hf => ?_)
                  · refine a_icmp_eq (pc := 61) 68 C dX8_minus_61 (by decide) hf (fun hf => ?_) (fun hf => ?_)
                    · exact a_sub [0] rfl (hk68 () hf)
                    · exact a_sub [0] rfl (hk64 () hf)
                  · refine a_if_ge (pc := 53) 60 C dX8_minus_53 (by decide) hf (fun hf => ?_) (fun hf => ?_)
                    · refine a_iconst (pc := 60) (v := 0) C dX8_minus_60 (by decide) ?_
                      exact a_sub [1] rfl (hk61 (0 : Int32) hf)
                    · refine a_iconst (pc := 56) (v := 1) C dX8_minus_56 (by decide) ?_
                      refine a_goto (pc := 57) 61 C dX8_minus_57 (by decide) ?_
                      exact a_sub [1] rfl (hk61 (1 : Int32) hf)
                · refine a_if_ge (pc := 42) 49 C dX8_minus_42 (by decide) hf (fun hf => ?_) (fun hf => ?_)
                  · refine a_iconst (pc := 49) (v := 0) C dX8_minus_49 (by decide) ?_
                    exact a_sub [0, 1] rfl (hk50 (0 : Int32) hf)
                  · refine a_iconst (pc := 45) (v := 1) C dX8_minus_45 (by decide) ?_
                    refine a_goto (pc := 46) 50 C dX8_minus_46 (by decide) ?_
                    exact a_sub [0, 1] rfl (hk50 (1 : Int32) hf)
          · refine a_if_ge (pc := 27) 34 C dX8_minus_27 (by decide) hf (fun hf => ?_) (fun hf => ?_)
            · refine a_iconst (pc := 34) (v := 0) C dX8_minus_34 (by decide) ?_
              exact a_sub [0, 2] rfl (hk35 (0 : Int32) hf)
            · refine a_iconst (pc := 30) (v := 1) C dX8_minus_30 (by decide) ?_
              refine a_goto (pc := 31) 35 C dX8_minus_31 (by decide) ?_
              exact a_sub [0, 2] rfl (hk35 (1 : Int32) hf)
        · refine a_if_ge (pc := 16) 23 C dX8_minus_16 (by decide) hf (fun hf => ?_) (fun hf => ?_)
          · refine a_iconst (pc := 23) (v := 0) C dX8_minus_23 (by decide) ?_
            exact a_sub [2, 3, 0] rfl (hk24 (0 : Int32) hf)
          · refine a_iconst (pc := 19) (v := 1) C dX8_minus_19 (by decide) ?_
            refine a_goto (pc := 20) 24 C dX8_minus_20 (by decide) ?_
            exact a_sub [2, 3, 0] rfl (hk24 (1 : Int32) hf)
theorem dX8_under_0 : decode cX8_under 0 = .ok (.lload_n 0, 1) := by decide +kernel
theorem dX8_under_1 : decode cX8_under 1 = .ok (.lload_n 2, 1) := by decide +kernel
theorem dX8_under_2 : decode cX8_under 2 = .ok (.lrem, 1) := by decide +kernel
theorem dX8_under_3 : decode cX8_under 3 = .ok (.lconst 0, 1) := by decide +kernel
theorem dX8_under_4 : decode cX8_under 4 = .ok (.lcmp, 1) := by decide +kernel
theorem dX8_under_5 : decode cX8_under 5 = .ok (.ifCond .ge 11, 3) := by decide +kernel
theorem dX8_under_8 : decode cX8_under 8 = .ok (.lload_n 0, 1) := by decide +kernel
theorem dX8_under_9 : decode cX8_under 9 = .ok (.lload_n 2, 1) := by decide +kernel
theorem dX8_under_10 : decode cX8_under 10 = .ok (.ldiv, 1) := by decide +kernel
theorem dX8_under_11 : decode cX8_under 11 = .ok (.lconst 1, 1) := by decide +kernel
theorem dX8_under_12 : decode cX8_under 12 = .ok (.lsub, 1) := by decide +kernel
theorem dX8_under_13 : decode cX8_under 13 = .ok (.goto 6, 3) := by decide +kernel
theorem dX8_under_16 : decode cX8_under 16 = .ok (.lload_n 0, 1) := by decide +kernel
theorem dX8_under_17 : decode cX8_under 17 = .ok (.lload_n 2, 1) := by decide +kernel
theorem dX8_under_18 : decode cX8_under 18 = .ok (.ldiv, 1) := by decide +kernel
theorem dX8_under_19 : decode cX8_under 19 = .ok (.lreturn, 1) := by decide +kernel
def f_X8_under (N : Nat) (x0 : Int64) (x2 : Int64) (M : Mem) : Option (Int64) := ck (¬ x2 = 0) (if 0 ≤ (lg_cmp (x0 - x0 / x2 * x2) (0 : Int64)) then (ck (¬ x2 = 0) (some (x0 / x2))) else (ck (¬ x2 = 0) (some ((x0 / x2) - (1 : Int64)))))
set_option maxRecDepth 100000 in
set_option maxHeartbeats 4000000 in
theorem c_X8_under {l : Launch} {D : va_G} {ac : Nat → ClassId} {A : Nat → Prop} {ad : Nat → Nat} {rest : va_W} (N : Nat) (x0 : Int64) (x2 : Int64)  (M : Mem) (r0 : Int64) (hf : f_X8_under N x0 x2 M = some r0) : CtJ l D ac A tabM ad rest yX8_under cX8_under 4  1 [.long x0, .long x2] M r0 M := by
  refine ct_ofJ (own := RX8) (by decide +kernel) rfl (Nat.le_of_ble_eq_true rfl) ?_
  intro p e s m args below meth c C
  unfold f_X8_under at hf
  refine a_L (L' := [(0, .long x0), (2, .long x2)]) rfl ?_
  refine a_lload_n (pc := 0) C dX8_under_0 0 rfl ?_
  refine a_lload_n (pc := 1) C dX8_under_1 1 rfl ?_
  refine a_lrem (pc := 2) C dX8_under_2 hf (fun hf => ?_)
  refine a_lconst (pc := 3) (v := 0) C dX8_under_3 (by decide) ?_
  refine a_lcmp (pc := 4) C dX8_under_4 ?_
  refine a_if_ge (pc := 5) 16 C dX8_under_5 (by decide) hf (fun hf => ?_) (fun hf => ?_)
  · refine a_lload_n (pc := 16) C dX8_under_16 0 rfl ?_
    refine a_lload_n (pc := 17) C dX8_under_17 1 rfl ?_
    refine a_ldiv (pc := 18) C dX8_under_18 hf (fun hf => ?_)
    exact a_lret (pc := 19) C dX8_under_19 (Option.some.inj hf) rfl
  · refine a_lload_n (pc := 8) C dX8_under_8 0 rfl ?_
    refine a_lload_n (pc := 9) C dX8_under_9 1 rfl ?_
    refine a_ldiv (pc := 10) C dX8_under_10 hf (fun hf => ?_)
    refine a_lconst (pc := 11) (v := 1) C dX8_under_11 (by decide) ?_
    refine a_lsub (pc := 12) C dX8_under_12 ?_
    refine a_goto (pc := 13) 19 C dX8_under_13 (by decide) ?_
    exact a_lret (pc := 19) C dX8_under_19 (Option.some.inj hf) rfl
theorem dX8_wipe_0 : decode cX8_wipe 0 = .ok (.aload_n 0, 1) := by decide +kernel
theorem dX8_wipe_1 : decode cX8_wipe 1 = .ok (.getfield 145, 3) := by decide +kernel
theorem dX8_wipe_4 : decode cX8_wipe 4 = .ok (.istore_n 1, 1) := by decide +kernel
theorem dX8_wipe_5 : decode cX8_wipe 5 = .ok (.aload_n 0, 1) := by decide +kernel
theorem dX8_wipe_6 : decode cX8_wipe 6 = .ok (.iconst 0, 1) := by decide +kernel
theorem dX8_wipe_7 : decode cX8_wipe 7 = .ok (.putfield 145, 3) := by decide +kernel
theorem dX8_wipe_10 : decode cX8_wipe 10 = .ok (.iload_n 1, 1) := by decide +kernel
theorem dX8_wipe_11 : decode cX8_wipe 11 = .ok (.ireturn, 1) := by decide +kernel
def f_X8_wipe (N : Nat)  (M : Mem) : Option (Int32 × Mem) := nm (M.1 0 31) (fun v1 => nm (setI M 0 31 (0 : Int32)) (fun M2 => some (v1, M2)))
set_option maxRecDepth 100000 in
set_option maxHeartbeats 4000000 in
theorem c_X8_wipe {l : Launch} {D : va_G} {ac : Nat → ClassId} {A : Nat → Prop} {ad : Nat → Nat} {rest : va_W} (N : Nat)   (M : Mem) (r0 : Int32) (M0 : Mem) (hf : f_X8_wipe N  M = some (r0, M0)) : CtI l D ac A tabM ad rest yX8_wipe cX8_wipe 2 .int 1 [.ref (ad 0)] M r0 M0 := by
  refine ct_ofI (own := RX8) (by decide +kernel) rfl (Nat.le_of_ble_eq_true rfl) ?_
  intro p e s m args below meth c C
  unfold f_X8_wipe at hf
  refine a_L (L' := [(0, .ref (ad 0))]) rfl ?_
  refine a_aload_n (pc := 0) C dX8_wipe_0 0 rfl ?_
  refine a_getI (pc := 1) C dX8_wipe_1 fl_X8_145 tm_0 rfl ?_
  refine a_nmi hf (fun v1 hf => ?_)
  refine a_istore_n (pc := 4) [(1, .int v1), (0, .ref (ad 0))] C dX8_wipe_4 (by decide) rfl ?_
  refine a_aload_n (pc := 5) C dX8_wipe_5 1 rfl ?_
  refine a_iconst (pc := 6) (v := 0) C dX8_wipe_6 (by decide) ?_
  refine a_putI (pc := 7) C dX8_wipe_7 fl_X8_145 tm_0 rfl hf (fun M2 hf => ?_)
  refine a_iload_n (pc := 10) C dX8_wipe_10 0 rfl ?_
  exact a_iret (pc := 11) C dX8_wipe_11 (so_1 hf) (so_2 hf)
theorem dX8_isWord_0 : decode cX8_isWord 0 = .ok (.iload 5, 2) := by decide +kernel
theorem dX8_isWord_2 : decode cX8_isWord 2 = .ok (.ifCond .ne 7, 3) := by decide +kernel
theorem dX8_isWord_5 : decode cX8_isWord 5 = .ok (.iconst 4, 1) := by decide +kernel
theorem dX8_isWord_6 : decode cX8_isWord 6 = .ok (.goto 14, 3) := by decide +kernel
theorem dX8_isWord_9 : decode cX8_isWord 9 = .ok (.iload 6, 2) := by decide +kernel
theorem dX8_isWord_11 : decode cX8_isWord 11 = .ok (.ifCond .ne 7, 3) := by decide +kernel
theorem dX8_isWord_14 : decode cX8_isWord 14 = .ok (.iconst 5, 1) := by decide +kernel
theorem dX8_isWord_15 : decode cX8_isWord 15 = .ok (.goto 5, 3) := by decide +kernel
theorem dX8_isWord_18 : decode cX8_isWord 18 = .ok (.bipush 6, 2) := by decide +kernel
theorem dX8_isWord_20 : decode cX8_isWord 20 = .ok (.istore 7, 2) := by decide +kernel
theorem dX8_isWord_22 : decode cX8_isWord 22 = .ok (.aload_n 0, 1) := by decide +kernel
theorem dX8_isWord_23 : decode cX8_isWord 23 = .ok (.getfield 314, 3) := by decide +kernel
theorem dX8_isWord_26 : decode cX8_isWord 26 = .ok (.iconst 1, 1) := by decide +kernel
theorem dX8_isWord_27 : decode cX8_isWord 27 = .ok (.if_icmp .ne 76, 3) := by decide +kernel
theorem dX8_isWord_30 : decode cX8_isWord 30 = .ok (.aload_n 0, 1) := by decide +kernel
theorem dX8_isWord_31 : decode cX8_isWord 31 = .ok (.getfield 302, 3) := by decide +kernel
theorem dX8_isWord_34 : decode cX8_isWord 34 = .ok (.aload_n 0, 1) := by decide +kernel
theorem dX8_isWord_35 : decode cX8_isWord 35 = .ok (.getfield 308, 3) := by decide +kernel
theorem dX8_isWord_38 : decode cX8_isWord 38 = .ok (.isub, 1) := by decide +kernel
theorem dX8_isWord_39 : decode cX8_isWord 39 = .ok (.iload 7, 2) := by decide +kernel
theorem dX8_isWord_41 : decode cX8_isWord 41 = .ok (.if_icmp .ne 62, 3) := by decide +kernel
theorem dX8_isWord_44 : decode cX8_isWord 44 = .ok (.aload_n 0, 1) := by decide +kernel
theorem dX8_isWord_45 : decode cX8_isWord 45 = .ok (.getfield 71, 3) := by decide +kernel
theorem dX8_isWord_48 : decode cX8_isWord 48 = .ok (.aload_n 0, 1) := by decide +kernel
theorem dX8_isWord_49 : decode cX8_isWord 49 = .ok (.getfield 308, 3) := by decide +kernel
theorem dX8_isWord_52 : decode cX8_isWord 52 = .ok (.iaload, 1) := by decide +kernel
theorem dX8_isWord_53 : decode cX8_isWord 53 = .ok (.iload_n 1, 1) := by decide +kernel
theorem dX8_isWord_54 : decode cX8_isWord 54 = .ok (.if_icmp .ne 49, 3) := by decide +kernel
theorem dX8_isWord_57 : decode cX8_isWord 57 = .ok (.aload_n 0, 1) := by decide +kernel
theorem dX8_isWord_58 : decode cX8_isWord 58 = .ok (.getfield 71, 3) := by decide +kernel
theorem dX8_isWord_61 : decode cX8_isWord 61 = .ok (.aload_n 0, 1) := by decide +kernel
theorem dX8_isWord_62 : decode cX8_isWord 62 = .ok (.getfield 308, 3) := by decide +kernel
theorem dX8_isWord_65 : decode cX8_isWord 65 = .ok (.iconst 1, 1) := by decide +kernel
theorem dX8_isWord_66 : decode cX8_isWord 66 = .ok (.iadd, 1) := by decide +kernel
theorem dX8_isWord_67 : decode cX8_isWord 67 = .ok (.iaload, 1) := by decide +kernel
theorem dX8_isWord_68 : decode cX8_isWord 68 = .ok (.iload_n 2, 1) := by decide +kernel
theorem dX8_isWord_69 : decode cX8_isWord 69 = .ok (.if_icmp .ne 34, 3) := by decide +kernel
theorem dX8_isWord_72 : decode cX8_isWord 72 = .ok (.aload_n 0, 1) := by decide +kernel
theorem dX8_isWord_73 : decode cX8_isWord 73 = .ok (.getfield 71, 3) := by decide +kernel
theorem dX8_isWord_76 : decode cX8_isWord 76 = .ok (.aload_n 0, 1) := by decide +kernel
theorem dX8_isWord_77 : decode cX8_isWord 77 = .ok (.getfield 308, 3) := by decide +kernel
theorem dX8_isWord_80 : decode cX8_isWord 80 = .ok (.iconst 2, 1) := by decide +kernel
theorem dX8_isWord_81 : decode cX8_isWord 81 = .ok (.iadd, 1) := by decide +kernel
theorem dX8_isWord_82 : decode cX8_isWord 82 = .ok (.iaload, 1) := by decide +kernel
theorem dX8_isWord_83 : decode cX8_isWord 83 = .ok (.iload_n 3, 1) := by decide +kernel
theorem dX8_isWord_84 : decode cX8_isWord 84 = .ok (.if_icmp .ne 19, 3) := by decide +kernel
theorem dX8_isWord_87 : decode cX8_isWord 87 = .ok (.aload_n 0, 1) := by decide +kernel
theorem dX8_isWord_88 : decode cX8_isWord 88 = .ok (.getfield 71, 3) := by decide +kernel
theorem dX8_isWord_91 : decode cX8_isWord 91 = .ok (.aload_n 0, 1) := by decide +kernel
theorem dX8_isWord_92 : decode cX8_isWord 92 = .ok (.getfield 308, 3) := by decide +kernel
theorem dX8_isWord_95 : decode cX8_isWord 95 = .ok (.iconst 3, 1) := by decide +kernel
theorem dX8_isWord_96 : decode cX8_isWord 96 = .ok (.iadd, 1) := by decide +kernel
theorem dX8_isWord_97 : decode cX8_isWord 97 = .ok (.iaload, 1) := by decide +kernel
theorem dX8_isWord_98 : decode cX8_isWord 98 = .ok (.iload 4, 2) := by decide +kernel
theorem dX8_isWord_100 : decode cX8_isWord 100 = .ok (.if_icmp .eq 5, 3) := by decide +kernel
theorem dX8_isWord_103 : decode cX8_isWord 103 = .ok (.iconst 0, 1) := by decide +kernel
theorem dX8_isWord_104 : decode cX8_isWord 104 = .ok (.ireturn, 1) := by decide +kernel
theorem dX8_isWord_105 : decode cX8_isWord 105 = .ok (.iload 7, 2) := by decide +kernel
theorem dX8_isWord_107 : decode cX8_isWord 107 = .ok (.iconst 5, 1) := by decide +kernel
theorem dX8_isWord_108 : decode cX8_isWord 108 = .ok (.if_icmp .lt 19, 3) := by decide +kernel
theorem dX8_isWord_111 : decode cX8_isWord 111 = .ok (.aload_n 0, 1) := by decide +kernel
theorem dX8_isWord_112 : decode cX8_isWord 112 = .ok (.getfield 71, 3) := by decide +kernel
theorem dX8_isWord_115 : decode cX8_isWord 115 = .ok (.aload_n 0, 1) := by decide +kernel
theorem dX8_isWord_116 : decode cX8_isWord 116 = .ok (.getfield 308, 3) := by decide +kernel
theorem dX8_isWord_119 : decode cX8_isWord 119 = .ok (.iconst 4, 1) := by decide +kernel
theorem dX8_isWord_120 : decode cX8_isWord 120 = .ok (.iadd, 1) := by decide +kernel
theorem dX8_isWord_121 : decode cX8_isWord 121 = .ok (.iaload, 1) := by decide +kernel
theorem dX8_isWord_122 : decode cX8_isWord 122 = .ok (.iload 5, 2) := by decide +kernel
theorem dX8_isWord_124 : decode cX8_isWord 124 = .ok (.if_icmp .ne 30, 3) := by decide +kernel
theorem dX8_isWord_127 : decode cX8_isWord 127 = .ok (.iload 7, 2) := by decide +kernel
theorem dX8_isWord_129 : decode cX8_isWord 129 = .ok (.bipush 6, 2) := by decide +kernel
theorem dX8_isWord_131 : decode cX8_isWord 131 = .ok (.if_icmp .lt 19, 3) := by decide +kernel
theorem dX8_isWord_134 : decode cX8_isWord 134 = .ok (.aload_n 0, 1) := by decide +kernel
theorem dX8_isWord_135 : decode cX8_isWord 135 = .ok (.getfield 71, 3) := by decide +kernel
theorem dX8_isWord_138 : decode cX8_isWord 138 = .ok (.aload_n 0, 1) := by decide +kernel
theorem dX8_isWord_139 : decode cX8_isWord 139 = .ok (.getfield 308, 3) := by decide +kernel
theorem dX8_isWord_142 : decode cX8_isWord 142 = .ok (.iconst 5, 1) := by decide +kernel
theorem dX8_isWord_143 : decode cX8_isWord 143 = .ok (.iadd, 1) := by decide +kernel
theorem dX8_isWord_144 : decode cX8_isWord 144 = .ok (.iaload, 1) := by decide +kernel
theorem dX8_isWord_145 : decode cX8_isWord 145 = .ok (.iload 6, 2) := by decide +kernel
theorem dX8_isWord_147 : decode cX8_isWord 147 = .ok (.if_icmp .ne 7, 3) := by decide +kernel
theorem dX8_isWord_150 : decode cX8_isWord 150 = .ok (.iconst 1, 1) := by decide +kernel
theorem dX8_isWord_151 : decode cX8_isWord 151 = .ok (.goto 4, 3) := by decide +kernel
theorem dX8_isWord_154 : decode cX8_isWord 154 = .ok (.iconst 0, 1) := by decide +kernel
theorem dX8_isWord_155 : decode cX8_isWord 155 = .ok (.ireturn, 1) := by decide +kernel
def f_X8_isWord (N : Nat) (x1 : Int32) (x2 : Int32) (x3 : Int32) (x4 : Int32) (x5 : Int32) (x6 : Int32) (M : Mem) : Option (Int32) := jn (fun (a20 : Int32) => if (M.1 0 34) = (1 : Int32) then (if ((M.1 0 33) - (M.1 0 32)) = a20 then (ck (inb (M.1 0 32) 120) (if (M.1 18 (M.1 0 32).toNatClampNeg) = x1 then (ck (inb ((M.1 0 32) + (1 : Int32)) 120) (if (M.1 18 ((M.1 0 32) + (1 : Int32)).toNatClampNeg) = x2 then (ck (inb ((M.1 0 32) + (2 : Int32)) 120) (if (M.1 18 ((M.1 0 32) + (2 : Int32)).toNatClampNeg) = x3 then (ck (inb ((M.1 0 32) + (3 : Int32)) 120) (if (M.1 18 ((M.1 0 32) + (3 : Int32)).toNatClampNeg) = x4 then (jn (fun (a154 : Unit) => some (0 : Int32)) (fun (k154 : Unit → Option (Int32)) => jn (fun (a127 : Unit) => jn (fun (a150 : Unit) => some (1 : Int32)) (fun (k150 : Unit → Option (Int32)) => if a20 < (6 : Int32) then (k150 ()) else (ck (inb ((M.1 0 32) + (5 : Int32)) 120) (if (M.1 18 ((M.1 0 32) + (5 : Int32)).toNatClampNeg) = x6 then (k150 ()) else (k154 ()))))) (fun (k127 : Unit → Option (Int32)) => if a20 < (5 : Int32) then (k127 ()) else (ck (inb ((M.1 0 32) + (4 : Int32)) 120) (if (M.1 18 ((M.1 0 32) + (4 : Int32)).toNatClampNeg) = x5 then (k127 ()) else (k154 ())))))) else (some (0 : Int32)))) else (some (0 : Int32)))) else (some (0 : Int32)))) else (some (0 : Int32)))) else (some (0 : Int32))) else (some (0 : Int32))) (fun (k20 : Int32 → Option (Int32)) => if x5 = 0 then (k20 (4 : Int32)) else (if x6 = 0 then (k20 (5 : Int32)) else (k20 (6 : Int32))))
set_option maxRecDepth 100000 in
set_option maxHeartbeats 4000000 in
theorem c_X8_isWord {l : Launch} {D : va_G} {ac : Nat → ClassId} {A : Nat → Prop} {ad : Nat → Nat} {rest : va_W} (N : Nat) (x1 : Int32) (x2 : Int32) (x3 : Int32) (x4 : Int32) (x5 : Int32) (x6 : Int32)  (M : Mem) (r0 : Int32) (hf : f_X8_isWord N x1 x2 x3 x4 x5 x6 M = some r0) : CtI l D ac A tabM ad rest yX8_isWord cX8_isWord 8 .boolean 1 [.ref (ad 0), .int x1, .int x2, .int x3, .int x4, .int x5, .int x6] M r0 M := by
  refine ct_ofI (own := RX8) (by decide +kernel) rfl (Nat.le_of_ble_eq_true rfl) ?_
  intro p e s m args below meth c C
  unfold f_X8_isWord at hf
  refine a_L (L' := [(0, .ref (ad 0)), (1, .int x1), (2, .int x2), (3, .int x3), (4, .int x4), (5, .int x5), (6, .int x6)]) rfl ?_
  refine a_iload (pc := 0) C dX8_isWord_0 5 rfl ?_
  refine a_jn 20 (fun a20 : Int32 => [(0, .ref (ad 0)), (1, .int x1), (2, .int x2), (3, .int x3), (4, .int x4), (5, .int x5), (6, .int x6)]) (fun a20 : Int32 => [.int a20]) (fun a20 : Int32 => M) hf (fun a20 hf => ?_) (fun k20 hk20 hf => ?_)
  · refine a_istore (pc := 20) [(7, .int a20), (0, .ref (ad 0)), (1, .int x1), (2, .int x2), (3, .int x3), (4, .int x4), (5, .int x5), (6, .int x6)] C dX8_isWord_20 (by decide) rfl ?_
    refine a_aload_n (pc := 22) C dX8_isWord_22 1 rfl ?_
    refine a_getI (pc := 23) C dX8_isWord_23 fl_X8_314 tm_0 rfl ?_
    refine a_iconst (pc := 26) (v := 1) C dX8_isWord_26 (by decide) ?_
    refine a_icmp_ne (pc := 27) 103 C dX8_isWord_27 (by decide) hf (fun hf => ?_) (fun hf => ?_)
    · refine a_iconst (pc := 103) (v := 0) C dX8_isWord_103 (by decide) ?_
      exact a_zret (pc := 104) C dX8_isWord_104 (Or.inl rfl) (Option.some.inj hf) rfl
    · refine a_aload_n (pc := 30) C dX8_isWord_30 1 rfl ?_
      refine a_getI (pc := 31) C dX8_isWord_31 fl_X8_302 tm_0 rfl ?_
      refine a_aload_n (pc := 34) C dX8_isWord_34 1 rfl ?_
      refine a_getI (pc := 35) C dX8_isWord_35 fl_X8_308 tm_0 rfl ?_
      refine a_isub (pc := 38) C dX8_isWord_38 ?_
      refine a_iload (pc := 39) C dX8_isWord_39 0 rfl ?_
      refine a_icmp_ne (pc := 41) 103 C dX8_isWord_41 (by decide) hf (fun hf => ?_) (fun hf => ?_)
      · refine a_iconst (pc := 103) (v := 0) C dX8_isWord_103 (by decide) ?_
        exact a_zret (pc := 104) C dX8_isWord_104 (Or.inl rfl) (Option.some.inj hf) rfl
      · refine a_aload_n (pc := 44) C dX8_isWord_44 1 rfl ?_
        refine a_getR (pc := 45) C dX8_isWord_45 fl_X8_71 tm_0 rfl ?_
        refine a_aload_n (pc := 48) C dX8_isWord_48 1 rfl ?_
        refine a_getI (pc := 49) C dX8_isWord_49 fl_X8_308 tm_0 rfl ?_
        refine a_iald (pc := 52) C dX8_isWord_52 tm_18 hf (fun hf => ?_)
        refine a_iload_n (pc := 53) C dX8_isWord_53 2 rfl ?_
        refine a_icmp_ne (pc := 54) 103 C dX8_isWord_54 (by decide) hf (fun hf => ?_) (fun hf => ?_)
        · refine a_iconst (pc := 103) (v := 0) C dX8_isWord_103 (by decide) ?_
          exact a_zret (pc := 104) C dX8_isWord_104 (Or.inl rfl) (Option.some.inj hf) rfl
        · refine a_aload_n (pc := 57) C dX8_isWord_57 1 rfl ?_
          refine a_getR (pc := 58) C dX8_isWord_58 fl_X8_71 tm_0 rfl ?_
          refine a_aload_n (pc := 61) C dX8_isWord_61 1 rfl ?_
          refine a_getI (pc := 62) C dX8_isWord_62 fl_X8_308 tm_0 rfl ?_
          refine a_iconst (pc := 65) (v := 1) C dX8_isWord_65 (by decide) ?_
          refine a_iadd (pc := 66) C dX8_isWord_66 ?_
          refine a_iald (pc := 67) C dX8_isWord_67 tm_18 hf (fun hf => ?_)
          refine a_iload_n (pc := 68) C dX8_isWord_68 3 rfl ?_
          refine a_icmp_ne (pc := 69) 103 C dX8_isWord_69 (by decide) hf (fun hf => ?_) (fun hf => ?_)
          · refine a_iconst (pc := 103) (v := 0) C dX8_isWord_103 (by decide) ?_
            exact a_zret (pc := 104) C dX8_isWord_104 (Or.inl rfl) (Option.some.inj hf) rfl
          · refine a_aload_n (pc := 72) C dX8_isWord_72 1 rfl ?_
            refine a_getR (pc := 73) C dX8_isWord_73 fl_X8_71 tm_0 rfl ?_
            refine a_aload_n (pc := 76) C dX8_isWord_76 1 rfl ?_
            refine a_getI (pc := 77) C dX8_isWord_77 fl_X8_308 tm_0 rfl ?_
            refine a_iconst (pc := 80) (v := 2) C dX8_isWord_80 (by decide) ?_
            refine a_iadd (pc := 81) C dX8_isWord_81 ?_
            refine a_iald (pc := 82) C dX8_isWord_82 tm_18 hf (fun hf => ?_)
            refine a_iload_n (pc := 83) C dX8_isWord_83 4 rfl ?_
            refine a_icmp_ne (pc := 84) 103 C dX8_isWord_84 (by decide) hf (fun hf => ?_) (fun hf => ?_)
            · refine a_iconst (pc := 103) (v := 0) C dX8_isWord_103 (by decide) ?_
              exact a_zret (pc := 104) C dX8_isWord_104 (Or.inl rfl) (Option.some.inj hf) rfl
            · refine a_aload_n (pc := 87) C dX8_isWord_87 1 rfl ?_
              refine a_getR (pc := 88) C dX8_isWord_88 fl_X8_71 tm_0 rfl ?_
              refine a_aload_n (pc := 91) C dX8_isWord_91 1 rfl ?_
              refine a_getI (pc := 92) C dX8_isWord_92 fl_X8_308 tm_0 rfl ?_
              refine a_iconst (pc := 95) (v := 3) C dX8_isWord_95 (by decide) ?_
              refine a_iadd (pc := 96) C dX8_isWord_96 ?_
              refine a_iald (pc := 97) C dX8_isWord_97 tm_18 hf (fun hf => ?_)
              refine a_iload (pc := 98) C dX8_isWord_98 5 rfl ?_
              refine a_icmp_eq (pc := 100) 105 C dX8_isWord_100 (by decide) hf (fun hf => ?_) (fun hf => ?_)
              · refine a_iload (pc := 105) C dX8_isWord_105 0 rfl ?_
                refine a_iconst (pc := 107) (v := 5) C dX8_isWord_107 (by decide) ?_
                refine a_jn 154 (fun a154 : Unit => []) (fun a154 : Unit => []) (fun a154 : Unit => M) hf (fun a154 hf => ?_) (fun k154 hk154 hf => ?_)
                · refine a_iconst (pc := 154) (v := 0) C dX8_isWord_154 (by decide) ?_
                  exact a_zret (pc := 155) C dX8_isWord_155 (Or.inl rfl) (Option.some.inj hf) rfl
                · refine a_jn 127 (fun a127 : Unit => [(0, .ref (ad 0)), (6, .int x6), (7, .int a20)]) (fun a127 : Unit => []) (fun a127 : Unit => M) hf (fun a127 hf => ?_) (fun k127 hk127 hf => ?_)
                  · refine a_iload (pc := 127) C dX8_isWord_127 2 rfl ?_
                    refine a_bipush (pc := 129) (v := 6) C dX8_isWord_129 (by decide) ?_
                    refine a_jn 150 (fun a150 : Unit => []) (fun a150 : Unit => []) (fun a150 : Unit => M) hf (fun a150 hf => ?_) (fun k150 hk150 hf => ?_)
                    · refine a_iconst (pc := 150) (v := 1) C dX8_isWord_150 (by decide) ?_
                      refine a_goto (pc := 151) 155 C dX8_isWord_151 (by decide) ?_
                      exact a_zret (pc := 155) C dX8_isWord_155 (Or.inr rfl) (Option.some.inj hf) rfl
                    · refine a_icmp_lt (pc := 131) 150 C dX8_isWord_131 (by decide) hf (fun hf => ?_) (fun hf => ?_)
                      · exact a_sub [] rfl (hk150 () hf)
                      · refine a_aload_n (pc := 134) C dX8_isWord_134 0 rfl ?_
                        refine a_getR (pc := 135) C dX8_isWord_135 fl_X8_71 tm_0 rfl ?_
                        refine a_aload_n (pc := 138) C dX8_isWord_138 0 rfl ?_
                        refine a_getI (pc := 139) C dX8_isWord_139 fl_X8_308 tm_0 rfl ?_
                        refine a_iconst (pc := 142) (v := 5) C dX8_isWord_142 (by decide) ?_
                        refine a_iadd (pc := 143) C dX8_isWord_143 ?_
                        refine a_iald (pc := 144) C dX8_isWord_144 tm_18 hf (fun hf => ?_)
                        refine a_iload (pc := 145) C dX8_isWord_145 1 rfl ?_
                        refine a_icmp_ne (pc := 147) 154 C dX8_isWord_147 (by decide) hf (fun hf => ?_) (fun hf => ?_)
                        · exact a_sub [] rfl (hk154 () hf)
                        · exact a_sub [] rfl (hk150 () hf)
                  · refine a_icmp_lt (pc := 108) 127 C dX8_isWord_108 (by decide) hf (fun hf => ?_) (fun hf => ?_)
                    · exact a_sub [1, 7, 0] rfl (hk127 () hf)
                    · refine a_aload_n (pc := 111) C dX8_isWord_111 1 rfl ?_
                      refine a_getR (pc := 112) C dX8_isWord_112 fl_X8_71 tm_0 rfl ?_
                      refine a_aload_n (pc := 115) C dX8_isWord_115 1 rfl ?_
                      refine a_getI (pc := 116) C dX8_isWord_116 fl_X8_308 tm_0 rfl ?_
                      refine a_iconst (pc := 119) (v := 4) C dX8_isWord_119 (by decide) ?_
                      refine a_iadd (pc := 120) C dX8_isWord_120 ?_
                      refine a_iald (pc := 121) C dX8_isWord_121 tm_18 hf (fun hf => ?_)
                      refine a_iload (pc := 122) C dX8_isWord_122 6 rfl ?_
                      refine a_icmp_ne (pc := 124) 154 C dX8_isWord_124 (by decide) hf (fun hf => ?_) (fun hf => ?_)
                      · exact a_sub [] rfl (hk154 () hf)
                      · exact a_sub [1, 7, 0] rfl (hk127 () hf)
              · refine a_iconst (pc := 103) (v := 0) C dX8_isWord_103 (by decide) ?_
                exact a_zret (pc := 104) C dX8_isWord_104 (Or.inl rfl) (Option.some.inj hf) rfl
  · refine a_if_ne (pc := 2) 9 C dX8_isWord_2 (by decide) hf (fun hf => ?_) (fun hf => ?_)
    · refine a_iload (pc := 9) C dX8_isWord_9 6 rfl ?_
      refine a_if_ne (pc := 11) 18 C dX8_isWord_11 (by decide) hf (fun hf => ?_) (fun hf => ?_)
      · refine a_bipush (pc := 18) (v := 6) C dX8_isWord_18 (by decide) ?_
        exact a_sub [0, 1, 2, 3, 4, 5, 6] rfl (hk20 (6 : Int32) hf)
      · refine a_iconst (pc := 14) (v := 5) C dX8_isWord_14 (by decide) ?_
        refine a_goto (pc := 15) 20 C dX8_isWord_15 (by decide) ?_
        exact a_sub [0, 1, 2, 3, 4, 5, 6] rfl (hk20 (5 : Int32) hf)
    · refine a_iconst (pc := 5) (v := 4) C dX8_isWord_5 (by decide) ?_
      refine a_goto (pc := 6) 20 C dX8_isWord_6 (by decide) ?_
      exact a_sub [0, 1, 2, 3, 4, 5, 6] rfl (hk20 (4 : Int32) hf)
theorem dX8_draw_0 : decode cX8_draw 0 = .ok (.aload_n 0, 1) := by decide +kernel
theorem dX8_draw_1 : decode cX8_draw 1 = .ok (.aload_n 0, 1) := by decide +kernel
theorem dX8_draw_2 : decode cX8_draw 2 = .ok (.getfield 7, 3) := by decide +kernel
theorem dX8_draw_5 : decode cX8_draw 5 = .ok (.ldc_w 347, 3) := by decide +kernel
theorem dX8_draw_8 : decode cX8_draw 8 = .ok (.imul, 1) := by decide +kernel
theorem dX8_draw_9 : decode cX8_draw 9 = .ok (.sipush 12345, 3) := by decide +kernel
theorem dX8_draw_12 : decode cX8_draw 12 = .ok (.iadd, 1) := by decide +kernel
theorem dX8_draw_13 : decode cX8_draw 13 = .ok (.putfield 7, 3) := by decide +kernel
theorem dX8_draw_16 : decode cX8_draw 16 = .ok (.aload_n 0, 1) := by decide +kernel
theorem dX8_draw_17 : decode cX8_draw 17 = .ok (.getfield 7, 3) := by decide +kernel
theorem dX8_draw_20 : decode cX8_draw 20 = .ok (.bipush 16, 2) := by decide +kernel
theorem dX8_draw_22 : decode cX8_draw 22 = .ok (.iushr, 1) := by decide +kernel
theorem dX8_draw_23 : decode cX8_draw 23 = .ok (.ireturn, 1) := by decide +kernel
def f_X8_draw (N : Nat)  (M : Mem) : Option (Int32 × Mem) := nm (setI M 0 2 (((M.1 0 2) * (1103515245 : Int32)) + (12345 : Int32))) (fun M1 => some ((ushrI (M1.1 0 2) (16 : Int32)), M1))
set_option maxRecDepth 100000 in
set_option maxHeartbeats 4000000 in
theorem c_X8_draw {l : Launch} {D : va_G} {ac : Nat → ClassId} {A : Nat → Prop} {ad : Nat → Nat} {rest : va_W} (N : Nat)   (M : Mem) (r0 : Int32) (M0 : Mem) (hf : f_X8_draw N  M = some (r0, M0)) : CtI l D ac A tabM ad rest yX8_draw cX8_draw 1 .int 1 [.ref (ad 0)] M r0 M0 := by
  refine ct_ofI (own := RX8) (by decide +kernel) rfl (Nat.le_of_ble_eq_true rfl) ?_
  intro p e s m args below meth c C
  unfold f_X8_draw at hf
  refine a_L (L' := [(0, .ref (ad 0))]) rfl ?_
  refine a_aload_n (pc := 0) C dX8_draw_0 0 rfl ?_
  refine a_aload_n (pc := 1) C dX8_draw_1 0 rfl ?_
  refine a_getI (pc := 2) C dX8_draw_2 fl_X8_7 tm_0 rfl ?_
  refine a_ldcw (pc := 5) C dX8_draw_5 co_X8_347 ?_
  refine a_imul (pc := 8) C dX8_draw_8 ?_
  refine a_sipush (pc := 9) (v := 12345) C dX8_draw_9 (by decide) ?_
  refine a_iadd (pc := 12) C dX8_draw_12 ?_
  refine a_putI (pc := 13) C dX8_draw_13 fl_X8_7 tm_0 rfl hf (fun M1 hf => ?_)
  refine a_aload_n (pc := 16) C dX8_draw_16 0 rfl ?_
  refine a_getI (pc := 17) C dX8_draw_17 fl_X8_7 tm_0 rfl ?_
  refine a_bipush (pc := 20) (v := 16) C dX8_draw_20 (by decide) ?_
  refine a_iushr (pc := 22) C dX8_draw_22 ?_
  exact a_iret (pc := 23) C dX8_draw_23 (so_1 hf) (so_2 hf)
theorem dX8_seed_0 : decode cX8_seed 0 = .ok (.aload_n 0, 1) := by decide +kernel
theorem dX8_seed_1 : decode cX8_seed 1 = .ok (.getfield 7, 3) := by decide +kernel
theorem dX8_seed_4 : decode cX8_seed 4 = .ok (.istore_n 2, 1) := by decide +kernel
theorem dX8_seed_5 : decode cX8_seed 5 = .ok (.aload_n 0, 1) := by decide +kernel
theorem dX8_seed_6 : decode cX8_seed 6 = .ok (.iload_n 1, 1) := by decide +kernel
theorem dX8_seed_7 : decode cX8_seed 7 = .ok (.putfield 7, 3) := by decide +kernel
theorem dX8_seed_10 : decode cX8_seed 10 = .ok (.iload_n 2, 1) := by decide +kernel
theorem dX8_seed_11 : decode cX8_seed 11 = .ok (.ireturn, 1) := by decide +kernel
def f_X8_seed (N : Nat) (x1 : Int32) (M : Mem) : Option (Int32 × Mem) := nm (M.1 0 2) (fun v1 => nm (setI M 0 2 x1) (fun M2 => some (v1, M2)))
set_option maxRecDepth 100000 in
set_option maxHeartbeats 4000000 in
theorem c_X8_seed {l : Launch} {D : va_G} {ac : Nat → ClassId} {A : Nat → Prop} {ad : Nat → Nat} {rest : va_W} (N : Nat) (x1 : Int32)  (M : Mem) (r0 : Int32) (M0 : Mem) (hf : f_X8_seed N x1 M = some (r0, M0)) : CtI l D ac A tabM ad rest yX8_seed cX8_seed 3 .int 1 [.ref (ad 0), .int x1] M r0 M0 := by
  refine ct_ofI (own := RX8) (by decide +kernel) rfl (Nat.le_of_ble_eq_true rfl) ?_
  intro p e s m args below meth c C
  unfold f_X8_seed at hf
  refine a_L (L' := [(0, .ref (ad 0)), (1, .int x1)]) rfl ?_
  refine a_aload_n (pc := 0) C dX8_seed_0 0 rfl ?_
  refine a_getI (pc := 1) C dX8_seed_1 fl_X8_7 tm_0 rfl ?_
  refine a_nmi hf (fun v1 hf => ?_)
  refine a_istore_n (pc := 4) [(2, .int v1), (0, .ref (ad 0)), (1, .int x1)] C dX8_seed_4 (by decide) rfl ?_
  refine a_aload_n (pc := 5) C dX8_seed_5 1 rfl ?_
  refine a_iload_n (pc := 6) C dX8_seed_6 2 rfl ?_
  refine a_putI (pc := 7) C dX8_seed_7 fl_X8_7 tm_0 rfl hf (fun M2 hf => ?_)
  refine a_iload_n (pc := 10) C dX8_seed_10 0 rfl ?_
  exact a_iret (pc := 11) C dX8_seed_11 (so_1 hf) (so_2 hf)
