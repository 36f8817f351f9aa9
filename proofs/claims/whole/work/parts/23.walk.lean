theorem dX8_waysFrom_0 : decode cX8_waysFrom 0 = .ok (.iload_n 1, 1) := by decide +kernel
theorem dX8_waysFrom_1 : decode cX8_waysFrom 1 = .ok (.aload_n 0, 1) := by decide +kernel
theorem dX8_waysFrom_2 : decode cX8_waysFrom 2 = .ok (.getfield 95, 3) := by decide +kernel
theorem dX8_waysFrom_5 : decode cX8_waysFrom 5 = .ok (.if_icmp .ne 5, 3) := by decide +kernel
theorem dX8_waysFrom_8 : decode cX8_waysFrom 8 = .ok (.iconst 1, 1) := by decide +kernel
theorem dX8_waysFrom_9 : decode cX8_waysFrom 9 = .ok (.ireturn, 1) := by decide +kernel
theorem dX8_waysFrom_10 : decode cX8_waysFrom 10 = .ok (.iconst 0, 1) := by decide +kernel
theorem dX8_waysFrom_11 : decode cX8_waysFrom 11 = .ok (.istore_n 3, 1) := by decide +kernel
theorem dX8_waysFrom_12 : decode cX8_waysFrom 12 = .ok (.iconst 0, 1) := by decide +kernel
theorem dX8_waysFrom_13 : decode cX8_waysFrom 13 = .ok (.istore 4, 2) := by decide +kernel
theorem dX8_waysFrom_15 : decode cX8_waysFrom 15 = .ok (.iload 4, 2) := by decide +kernel
theorem dX8_waysFrom_17 : decode cX8_waysFrom 17 = .ok (.aload_n 0, 1) := by decide +kernel
theorem dX8_waysFrom_18 : decode cX8_waysFrom 18 = .ok (.getfield 148, 3) := by decide +kernel
theorem dX8_waysFrom_21 : decode cX8_waysFrom 21 = .ok (.if_icmp .ge 56, 3) := by decide +kernel
theorem dX8_waysFrom_24 : decode cX8_waysFrom 24 = .ok (.aload_n 0, 1) := by decide +kernel
theorem dX8_waysFrom_25 : decode cX8_waysFrom 25 = .ok (.getfield 38, 3) := by decide +kernel
theorem dX8_waysFrom_28 : decode cX8_waysFrom 28 = .ok (.iload_n 1, 1) := by decide +kernel
theorem dX8_waysFrom_29 : decode cX8_waysFrom 29 = .ok (.iload 4, 2) := by decide +kernel
theorem dX8_waysFrom_31 : decode cX8_waysFrom 31 = .ok (.iastore, 1) := by decide +kernel
theorem dX8_waysFrom_32 : decode cX8_waysFrom 32 = .ok (.iload_n 2, 1) := by decide +kernel
theorem dX8_waysFrom_33 : decode cX8_waysFrom 33 = .ok (.ifCond .eq 19, 3) := by decide +kernel
theorem dX8_waysFrom_36 : decode cX8_waysFrom 36 = .ok (.aload_n 0, 1) := by decide +kernel
theorem dX8_waysFrom_37 : decode cX8_waysFrom 37 = .ok (.getfield 28, 3) := by decide +kernel
theorem dX8_waysFrom_40 : decode cX8_waysFrom 40 = .ok (.iload_n 1, 1) := by decide +kernel
theorem dX8_waysFrom_41 : decode cX8_waysFrom 41 = .ok (.laload, 1) := by decide +kernel
theorem dX8_waysFrom_42 : decode cX8_waysFrom 42 = .ok (.iload 4, 2) := by decide +kernel
theorem dX8_waysFrom_44 : decode cX8_waysFrom 44 = .ok (.lshr, 1) := by decide +kernel
theorem dX8_waysFrom_45 : decode cX8_waysFrom 45 = .ok (.lconst 1, 1) := by decide +kernel
theorem dX8_waysFrom_46 : decode cX8_waysFrom 46 = .ok (.land, 1) := by decide +kernel
theorem dX8_waysFrom_47 : decode cX8_waysFrom 47 = .ok (.lconst 1, 1) := by decide +kernel
theorem dX8_waysFrom_48 : decode cX8_waysFrom 48 = .ok (.lcmp, 1) := by decide +kernel
theorem dX8_waysFrom_49 : decode cX8_waysFrom 49 = .ok (.ifCond .ne 22, 3) := by decide +kernel
theorem dX8_waysFrom_52 : decode cX8_waysFrom 52 = .ok (.aload_n 0, 1) := by decide +kernel
theorem dX8_waysFrom_53 : decode cX8_waysFrom 53 = .ok (.iload_n 1, 1) := by decide +kernel
theorem dX8_waysFrom_54 : decode cX8_waysFrom 54 = .ok (.invokevirtual 189, 3) := by decide +kernel
theorem dX8_waysFrom_57 : decode cX8_waysFrom 57 = .ok (.ifCond .eq 14, 3) := by decide +kernel
theorem dX8_waysFrom_60 : decode cX8_waysFrom 60 = .ok (.iload_n 3, 1) := by decide +kernel
theorem dX8_waysFrom_61 : decode cX8_waysFrom 61 = .ok (.aload_n 0, 1) := by decide +kernel
theorem dX8_waysFrom_62 : decode cX8_waysFrom 62 = .ok (.iload_n 1, 1) := by decide +kernel
theorem dX8_waysFrom_63 : decode cX8_waysFrom 63 = .ok (.iconst 1, 1) := by decide +kernel
theorem dX8_waysFrom_64 : decode cX8_waysFrom 64 = .ok (.iadd, 1) := by decide +kernel
theorem dX8_waysFrom_65 : decode cX8_waysFrom 65 = .ok (.iload_n 2, 1) := by decide +kernel
theorem dX8_waysFrom_66 : decode cX8_waysFrom 66 = .ok (.invokevirtual 192, 3) := by decide +kernel
theorem dX8_waysFrom_69 : decode cX8_waysFrom 69 = .ok (.iadd, 1) := by decide +kernel
theorem dX8_waysFrom_70 : decode cX8_waysFrom 70 = .ok (.istore_n 3, 1) := by decide +kernel
theorem dX8_waysFrom_71 : decode cX8_waysFrom 71 = .ok (.iinc 4 1, 3) := by decide +kernel
theorem dX8_waysFrom_74 : decode cX8_waysFrom 74 = .ok (.goto (-59), 3) := by decide +kernel
theorem dX8_waysFrom_77 : decode cX8_waysFrom 77 = .ok (.iload_n 3, 1) := by decide +kernel
theorem dX8_waysFrom_78 : decode cX8_waysFrom 78 = .ok (.ireturn, 1) := by decide +kernel
def f_X8_waysFrom (N : Nat) : Nat → Int32 → Int32 → Mem → Option (Int32 × Mem)
  | 0, _, _, _ => none
  | dd + 1, x1, x2, M => if x1 = (M.1 0 0) then (some ((1 : Int32), M)) else (lp (fun (k15 : (Int32 × Int32 × Mem) → Option (Int32 × Mem)) (a15 : Int32 × Int32 × Mem) => if (a15.2.2.1 0 12) ≤ a15.2.1 then (some (a15.1, a15.2.2)) else (ck (inb x1 6) (nm (setI a15.2.2 7 x1.toNatClampNeg a15.2.1) (fun M1 => jn (fun (a71 : Int32 × Mem) => nm (a15.2.1 + (1 : Int32)) (fun v2 => k15 (a71.1, v2, a71.2))) (fun (k71 : (Int32 × Mem) → Option (Int32 × Mem)) => jn (fun (a52 : Unit) => bd (f_X8_isFarEnough N x1 M1) (fun v3 => if v3 = 0 then (k71 (a15.1, M1)) else (bd (f_X8_waysFrom N dd (x1 + (1 : Int32)) x2 M1) (fun w7 => nm (a15.1 + w7.1) (fun v8 => k71 (v8, w7.2)))))) (fun (k52 : Unit → Option (Int32 × Mem)) => if x2 = 0 then (k52 ()) else (ck (inb x1 6) (if (lg_cmp (((M1.2 5 x1.toNatClampNeg) >>> (a15.2.1.toInt64 &&& 63)) &&& (1 : Int64)) (1 : Int64)) = 0 then (k52 ()) else (k71 (a15.1, M1)))))))))) N ((0 : Int32), (0 : Int32), M))
set_option maxRecDepth 100000 in
set_option maxHeartbeats 4000000 in
theorem c_X8_waysFrom {l : Launch} {D : va_G} {ac : Nat → ClassId} {A : Nat → Prop} {ad : Nat → Nat} {rest : va_W} (N : Nat) : ∀ (dd : Nat) (x1 : Int32) (x2 : Int32)  (M : Mem) (r0 : Int32) (M0 : Mem), f_X8_waysFrom N dd x1 x2 M = some (r0, M0) → CtI l D ac A tabM ad rest yX8_waysFrom cX8_waysFrom 5 .int (4 + dd) [.ref (ad 0), .int x1, .int x2] M r0 M0 := by
  intro dd
  induction dd with
  | zero => intro x1 x2  M r0 M0 hf; cases hf
  | succ dd ih =>
  intro x1 x2  M r0 M0 hf
  refine ct_ofI (own := RX8) (by decide +kernel) rfl (Nat.le_of_ble_eq_true rfl) ?_
  intro p e s m args below meth c C
  unfold f_X8_waysFrom at hf
  refine a_L (L' := [(0, .ref (ad 0)), (1, .int x1), (2, .int x2)]) rfl ?_
  refine a_iload_n (pc := 0) C dX8_waysFrom_0 1 rfl ?_
  refine a_aload_n (pc := 1) C dX8_waysFrom_1 0 rfl ?_
  refine a_getI (pc := 2) C dX8_waysFrom_2 fl_X8_95 tm_0 rfl ?_
  refine a_icmp_ne (pc := 5) 10 C dX8_waysFrom_5 (by decide) hf (fun hf => ?_) (fun hf => ?_)
  · refine a_iconst (pc := 10) (v := 0) C dX8_waysFrom_10 (by decide) ?_
    refine a_istore_n (pc := 11) [(3, .int (0 : Int32)), (0, .ref (ad 0)), (1, .int x1), (2, .int x2)] C dX8_waysFrom_11 (by decide) rfl ?_
    refine a_iconst (pc := 12) (v := 0) C dX8_waysFrom_12 (by decide) ?_
    refine a_istore (pc := 13) [(4, .int (0 : Int32)), (3, .int (0 : Int32)), (0, .ref (ad 0)), (1, .int x1), (2, .int x2)] C dX8_waysFrom_13 (by decide) rfl ?_
    refine a_sub [2, 3, 4, 1, 0] rfl ?_
    refine a_lp 15 (fun a15 : Int32 × Int32 × Mem => [(0, .ref (ad 0)), (1, .int x1), (2, .int x2), (3, .int a15.1), (4, .int a15.2.1)]) (fun a15 : Int32 × Int32 × Mem => []) (fun a15 : Int32 × Int32 × Mem => a15.2.2) (fun k15 a15 hk15 hf => ?_) N ((0 : Int32), (0 : Int32), M) hf
    refine a_iload (pc := 15) C dX8_waysFrom_15 4 rfl ?_
    refine a_aload_n (pc := 17) C dX8_waysFrom_17 0 rfl ?_
    refine a_getI (pc := 18) C dX8_waysFrom_18 fl_X8_148 tm_0 rfl ?_
    refine a_icmp_ge (pc := 21) 77 C dX8_waysFrom_21 (by decide) hf (fun hf => ?_) (fun hf => ?_)
    · refine a_iload_n (pc := 77) C dX8_waysFrom_77 3 rfl ?_
      exact a_iret (pc := 78) C dX8_waysFrom_78 (so_1 hf) (so_2 hf)
    · refine a_aload_n (pc := 24) C dX8_waysFrom_24 0 rfl ?_
      refine a_getR (pc := 25) C dX8_waysFrom_25 fl_X8_38 tm_0 rfl ?_
      refine a_iload_n (pc := 28) C dX8_waysFrom_28 1 rfl ?_
      refine a_iload (pc := 29) C dX8_waysFrom_29 4 rfl ?_
      refine a_iast (pc := 31) C dX8_waysFrom_31 tm_7 hf (fun M1 hf => ?_)
      refine a_iload_n (pc := 32) C dX8_waysFrom_32 2 rfl ?_
      refine a_jn 71 (fun a71 : Int32 × Mem => [(0, .ref (ad 0)), (1, .int x1), (2, .int x2), (3, .int a71.1), (4, .int a15.2.1)]) (fun a71 : Int32 × Mem => []) (fun a71 : Int32 × Mem => a71.2) hf (fun a71 hf => ?_) (fun k71 hk71 hf => ?_)
      · refine a_iinc (pc := 71) (v := 1) (fun v2 => [(4, .int v2), (0, .ref (ad 0)), (1, .int x1), (2, .int x2), (3, .int a71.1)]) C dX8_waysFrom_71 4 rfl (by decide) (by decide) (fun _ => rfl) hf (fun v2 hf => ?_)
        refine a_goto (pc := 74) 15 C dX8_waysFrom_74 (by decide) ?_
        exact a_sub [1, 2, 3, 4, 0] rfl (hk15 (a71.1, v2, a71.2) hf)
      · refine a_jn 52 (fun a52 : Unit => [(0, .ref (ad 0)), (1, .int x1), (2, .int x2), (3, .int a15.1), (4, .int a15.2.1)]) (fun a52 : Unit => []) (fun a52 : Unit => M1) hf (fun a52 hf => ?_) (fun k52 hk52 hf => ?_)
        · refine a_aload_n (pc := 52) C dX8_waysFrom_52 0 rfl ?_
          refine a_iload_n (pc := 53) C dX8_waysFrom_53 1 rfl ?_
          refine a_callV_Ir (pc := 54) (d' := 3) C dX8_waysFrom_54 ml_X8_189 mc_X8_isFarEnough mv_X8_isFarEnough tm_0 rfl [.int x1] rfl (by omega) (Nat.le_of_ble_eq_true rfl) rfl (Nat.le_of_ble_eq_true rfl) (fun r h => c_X8_isFarEnough N x1  _  r h) hf (fun v3 hf => ?_)
          refine a_if_eq (pc := 57) 71 C dX8_waysFrom_57 (by decide) hf (fun hf => ?_) (fun hf => ?_)
          · exact a_sub [0, 1, 2, 3, 4] rfl (hk71 (a15.1, M1) hf)
          · refine a_iload_n (pc := 60) C dX8_waysFrom_60 3 rfl ?_
            refine a_aload_n (pc := 61) C dX8_waysFrom_61 0 rfl ?_
            refine a_iload_n (pc := 62) C dX8_waysFrom_62 1 rfl ?_
            refine a_iconst (pc := 63) (v := 1) C dX8_waysFrom_63 (by decide) ?_
            refine a_iadd (pc := 64) C dX8_waysFrom_64 ?_
            refine a_iload_n (pc := 65) C dX8_waysFrom_65 2 rfl ?_
            refine a_callV_I (pc := 66) (d' := (4 + dd)) C dX8_waysFrom_66 ml_X8_192 mc_X8_waysFrom mv_X8_waysFrom tm_0 rfl [.int (x1 + (1 : Int32)), .int x2] rfl (by omega) (Nat.le_of_ble_eq_true rfl) rfl (Nat.le_of_ble_eq_true rfl) (fun r M' h => ih (x1 + (1 : Int32)) x2  _  r M' h) hf (fun v5 M6 hf => ?_)
            refine a_iadd (pc := 69) C dX8_waysFrom_69 ?_
            refine a_nmi hf (fun v8 hf => ?_)
            refine a_istore_n (pc := 70) [(3, .int v8), (0, .ref (ad 0)), (1, .int x1), (2, .int x2), (4, .int a15.2.1)] C dX8_waysFrom_70 (by decide) rfl ?_
            exact a_sub [1, 2, 3, 0, 4] rfl (hk71 (v8, M6) hf)
        · refine a_if_eq (pc := 33) 52 C dX8_waysFrom_33 (by decide) hf (fun hf => ?_) (fun hf => ?_)
          · exact a_sub [0, 1, 2, 3, 4] rfl (hk52 () hf)
          · refine a_aload_n (pc := 36) C dX8_waysFrom_36 0 rfl ?_
            refine a_getR (pc := 37) C dX8_waysFrom_37 fl_X8_28 tm_0 rfl ?_
            refine a_iload_n (pc := 40) C dX8_waysFrom_40 1 rfl ?_
            refine a_lald (pc := 41) C dX8_waysFrom_41 tm_5 hf (fun hf => ?_)
            refine a_iload (pc := 42) C dX8_waysFrom_42 4 rfl ?_
            refine a_lshr (pc := 44) C dX8_waysFrom_44 ?_
            refine a_lconst (pc := 45) (v := 1) C dX8_waysFrom_45 (by decide) ?_
            refine a_land (pc := 46) C dX8_waysFrom_46 ?_
            refine a_lconst (pc := 47) (v := 1) C dX8_waysFrom_47 (by decide) ?_
            refine a_lcmp (pc := 48) C dX8_waysFrom_48 ?_
            refine a_if_ne (pc := 49) 71 C dX8_waysFrom_49 (by decide) hf (fun hf => ?_) (fun hf => ?_)
            · exact a_sub [0, 1, 2, 3, 4] rfl (hk71 (a15.1, M1) hf)
            · exact a_sub [0, 1, 2, 3, 4] rfl (hk52 () hf)
  · refine a_iconst (pc := 8) (v := 1) C dX8_waysFrom_8 (by decide) ?_
    exact a_iret (pc := 9) C dX8_waysFrom_9 (so_1 hf) (so_2 hf)
theorem dX7_ways_0 : decode cX7_ways 0 = .ok (.iload_n 1, 1) := by decide +kernel
theorem dX7_ways_1 : decode cX7_ways 1 = .ok (.iconst 1, 1) := by decide +kernel
theorem dX7_ways_2 : decode cX7_ways 2 = .ok (.bipush 8, 2) := by decide +kernel
theorem dX7_ways_4 : decode cX7_ways 4 = .ok (.invokestatic 64, 3) := by decide +kernel
theorem dX7_ways_7 : decode cX7_ways 7 = .ok (.ifCond .eq 22, 3) := by decide +kernel
theorem dX7_ways_10 : decode cX7_ways 10 = .ok (.iload_n 2, 1) := by decide +kernel
theorem dX7_ways_11 : decode cX7_ways 11 = .ok (.iconst 1, 1) := by decide +kernel
theorem dX7_ways_12 : decode cX7_ways 12 = .ok (.bipush 6, 2) := by decide +kernel
theorem dX7_ways_14 : decode cX7_ways 14 = .ok (.invokestatic 64, 3) := by decide +kernel
theorem dX7_ways_17 : decode cX7_ways 17 = .ok (.ifCond .eq 12, 3) := by decide +kernel
theorem dX7_ways_20 : decode cX7_ways 20 = .ok (.iload_n 3, 1) := by decide +kernel
theorem dX7_ways_21 : decode cX7_ways 21 = .ok (.iconst 0, 1) := by decide +kernel
theorem dX7_ways_22 : decode cX7_ways 22 = .ok (.iconst 1, 1) := by decide +kernel
theorem dX7_ways_23 : decode cX7_ways 23 = .ok (.invokestatic 64, 3) := by decide +kernel
theorem dX7_ways_26 : decode cX7_ways 26 = .ok (.ifCond .ne 6, 3) := by decide +kernel
theorem dX7_ways_29 : decode cX7_ways 29 = .ok (.bipush (-2), 2) := by decide +kernel
theorem dX7_ways_31 : decode cX7_ways 31 = .ok (.ireturn, 1) := by decide +kernel
theorem dX7_ways_32 : decode cX7_ways 32 = .ok (.aload_n 0, 1) := by decide +kernel
theorem dX7_ways_33 : decode cX7_ways 33 = .ok (.getfield 32, 3) := by decide +kernel
theorem dX7_ways_36 : decode cX7_ways 36 = .ok (.aload_n 0, 1) := by decide +kernel
theorem dX7_ways_37 : decode cX7_ways 37 = .ok (.getfield 12, 3) := by decide +kernel
theorem dX7_ways_40 : decode cX7_ways 40 = .ok (.iload_n 1, 1) := by decide +kernel
theorem dX7_ways_41 : decode cX7_ways 41 = .ok (.iload_n 2, 1) := by decide +kernel
theorem dX7_ways_42 : decode cX7_ways 42 = .ok (.iload_n 3, 1) := by decide +kernel
theorem dX7_ways_43 : decode cX7_ways 43 = .ok (.invokevirtual 148, 3) := by decide +kernel
theorem dX7_ways_46 : decode cX7_ways 46 = .ok (.aload_n 0, 1) := by decide +kernel
theorem dX7_ways_47 : decode cX7_ways 47 = .ok (.getfield 32, 3) := by decide +kernel
theorem dX7_ways_50 : decode cX7_ways 50 = .ok (.aload_n 0, 1) := by decide +kernel
theorem dX7_ways_51 : decode cX7_ways 51 = .ok (.getfield 12, 3) := by decide +kernel
theorem dX7_ways_54 : decode cX7_ways 54 = .ok (.iload_n 3, 1) := by decide +kernel
theorem dX7_ways_55 : decode cX7_ways 55 = .ok (.invokevirtual 162, 3) := by decide +kernel
theorem dX7_ways_58 : decode cX7_ways 58 = .ok (.ireturn, 1) := by decide +kernel
def f_X7_ways (N : Nat) (x1 : Int32) (x2 : Int32) (x3 : Int32) (M : Mem) : Option (Int32 × Mem) := bd (f_X7_within N x1 (1 : Int32) (8 : Int32) M) (fun v1 => if v1 = 0 then (some ((-2 : Int32), M)) else (bd (f_X7_within N x2 (1 : Int32) (6 : Int32) M) (fun v3 => if v3 = 0 then (some ((-2 : Int32), M)) else (bd (f_X7_within N x3 (0 : Int32) (1 : Int32) M) (fun v5 => if v5 = 0 then (some ((-2 : Int32), M)) else (bd (f_X2_prepare N 1 x1 x2 x3 M) (fun M8 => bd (f_X2_countAll N 1 x3 M8) (fun w11 => some (w11.1, w11.2)))))))))
set_option maxRecDepth 100000 in
set_option maxHeartbeats 4000000 in
theorem c_X7_ways {l : Launch} {D : va_G} {ac : Nat → ClassId} {A : Nat → Prop} {ad : Nat → Nat} {rest : va_W} (N : Nat) (x1 : Int32) (x2 : Int32) (x3 : Int32)  (M : Mem) (r0 : Int32) (M0 : Mem) (hf : f_X7_ways N x1 x2 x3 M = some (r0, M0)) : CtI l D ac A tabX ad rest yX7_ways cX7_ways 4 .int 15 [.ref (ad 0), .int x1, .int x2, .int x3] M r0 M0 := by
  refine ct_ofI (own := RX7) (by decide +kernel) rfl (Nat.le_of_ble_eq_true rfl) ?_
  intro p e s m args below meth c C
  unfold f_X7_ways at hf
  refine a_L (L' := [(0, .ref (ad 0)), (1, .int x1), (2, .int x2), (3, .int x3)]) rfl ?_
  refine a_iload_n (pc := 0) C dX7_ways_0 1 rfl ?_
  refine a_iconst (pc := 1) (v := 1) C dX7_ways_1 (by decide) ?_
  refine a_bipush (pc := 2) (v := 8) C dX7_ways_2 (by decide) ?_
  refine a_callS_Ir (pc := 4) (d' := 1) C dX7_ways_4 ml_X7_64 mc_X7_within ms_X7_within [.int x1, .int (1 : Int32), .int (8 : Int32)] rfl (Nat.le_of_ble_eq_true rfl) (Nat.le_of_ble_eq_true rfl) rfl (Nat.le_of_ble_eq_true rfl) (fun r h => c_X7_within N x1 (1 : Int32) (8 : Int32)  _  r h) hf (fun v1 hf => ?_)
  refine a_if_eq (pc := 7) 29 C dX7_ways_7 (by decide) hf (fun hf => ?_) (fun hf => ?_)
  · refine a_bipush (pc := 29) (v := (-2)) C dX7_ways_29 (by decide) ?_
    exact a_iret (pc := 31) C dX7_ways_31 (so_1 hf) (so_2 hf)
  · refine a_iload_n (pc := 10) C dX7_ways_10 2 rfl ?_
    refine a_iconst (pc := 11) (v := 1) C dX7_ways_11 (by decide) ?_
    refine a_bipush (pc := 12) (v := 6) C dX7_ways_12 (by decide) ?_
    refine a_callS_Ir (pc := 14) (d' := 1) C dX7_ways_14 ml_X7_64 mc_X7_within ms_X7_within [.int x2, .int (1 : Int32), .int (6 : Int32)] rfl (Nat.le_of_ble_eq_true rfl) (Nat.le_of_ble_eq_true rfl) rfl (Nat.le_of_ble_eq_true rfl) (fun r h => c_X7_within N x2 (1 : Int32) (6 : Int32)  _  r h) hf (fun v3 hf => ?_)
    refine a_if_eq (pc := 17) 29 C dX7_ways_17 (by decide) hf (fun hf => ?_) (fun hf => ?_)
    · refine a_bipush (pc := 29) (v := (-2)) C dX7_ways_29 (by decide) ?_
      exact a_iret (pc := 31) C dX7_ways_31 (so_1 hf) (so_2 hf)
    · refine a_iload_n (pc := 20) C dX7_ways_20 3 rfl ?_
      refine a_iconst (pc := 21) (v := 0) C dX7_ways_21 (by decide) ?_
      refine a_iconst (pc := 22) (v := 1) C dX7_ways_22 (by decide) ?_
      refine a_callS_Ir (pc := 23) (d' := 1) C dX7_ways_23 ml_X7_64 mc_X7_within ms_X7_within [.int x3, .int (0 : Int32), .int (1 : Int32)] rfl (Nat.le_of_ble_eq_true rfl) (Nat.le_of_ble_eq_true rfl) rfl (Nat.le_of_ble_eq_true rfl) (fun r h => c_X7_within N x3 (0 : Int32) (1 : Int32)  _  r h) hf (fun v5 hf => ?_)
      refine a_if_ne (pc := 26) 32 C dX7_ways_26 (by decide) hf (fun hf => ?_) (fun hf => ?_)
      · refine a_aload_n (pc := 32) C dX7_ways_32 0 rfl ?_
        refine a_getR (pc := 33) C dX7_ways_33 fl_X7_32 tx_0 rfl ?_
        refine a_aload_n (pc := 36) C dX7_ways_36 0 rfl ?_
        refine a_getR (pc := 37) C dX7_ways_37 fl_X7_12 tx_0 rfl ?_
        refine a_iload_n (pc := 40) C dX7_ways_40 1 rfl ?_
        refine a_iload_n (pc := 41) C dX7_ways_41 2 rfl ?_
        refine a_iload_n (pc := 42) C dX7_ways_42 3 rfl ?_
        refine a_callV_V (pc := 43) (d' := 3) C dX7_ways_43 ml_X7_148 mc_X2_prepare mv_X2_prepare tx_26 rfl [.ref (ad 1), .int x1, .int x2, .int x3] rfl (Nat.le_of_ble_eq_true rfl) (Nat.le_of_ble_eq_true rfl) rfl (Nat.le_of_ble_eq_true rfl) (fun M' h => c_X2_prepare N 1 x1 x2 x3 net_1 _  M' h) hf (fun M8 hf => ?_)
        refine a_aload_n (pc := 46) C dX7_ways_46 0 rfl ?_
        refine a_getR (pc := 47) C dX7_ways_47 fl_X7_32 tx_0 rfl ?_
        refine a_aload_n (pc := 50) C dX7_ways_50 0 rfl ?_
        refine a_getR (pc := 51) C dX7_ways_51 fl_X7_12 tx_0 rfl ?_
        refine a_iload_n (pc := 54) C dX7_ways_54 3 rfl ?_
        refine a_callV_I (pc := 55) (d' := 14) C dX7_ways_55 ml_X7_162 mc_X2_countAll mv_X2_countAll tx_26 rfl [.ref (ad 1), .int x3] rfl (Nat.le_of_ble_eq_true rfl) (Nat.le_of_ble_eq_true rfl) rfl (Nat.le_of_ble_eq_true rfl) (fun r M' h => c_X2_countAll N 1 x3 net_1 _  r M' h) hf (fun v9 M10 hf => ?_)
        exact a_iret (pc := 58) C dX7_ways_58 (so_1 hf) (so_2 hf)
      · refine a_bipush (pc := 29) (v := (-2)) C dX7_ways_29 (by decide) ?_
        exact a_iret (pc := 31) C dX7_ways_31 (so_1 hf) (so_2 hf)
theorem dX8_colours_0 : decode cX8_colours 0 = .ok (.aload_n 0, 1) := by decide +kernel
theorem dX8_colours_1 : decode cX8_colours 1 = .ok (.iload_n 1, 1) := by decide +kernel
theorem dX8_colours_2 : decode cX8_colours 2 = .ok (.putfield 148, 3) := by decide +kernel
theorem dX8_colours_5 : decode cX8_colours 5 = .ok (.aload_n 0, 1) := by decide +kernel
theorem dX8_colours_6 : decode cX8_colours 6 = .ok (.iload_n 2, 1) := by decide +kernel
theorem dX8_colours_7 : decode cX8_colours 7 = .ok (.putfield 151, 3) := by decide +kernel
theorem dX8_colours_10 : decode cX8_colours 10 = .ok (.iconst 0, 1) := by decide +kernel
theorem dX8_colours_11 : decode cX8_colours 11 = .ok (.istore 4, 2) := by decide +kernel
theorem dX8_colours_13 : decode cX8_colours 13 = .ok (.iload 4, 2) := by decide +kernel
theorem dX8_colours_15 : decode cX8_colours 15 = .ok (.aload_n 0, 1) := by decide +kernel
theorem dX8_colours_16 : decode cX8_colours 16 = .ok (.getfield 95, 3) := by decide +kernel
theorem dX8_colours_19 : decode cX8_colours 19 = .ok (.if_icmp .ge 74, 3) := by decide +kernel
theorem dX8_colours_22 : decode cX8_colours 22 = .ok (.aload_n 0, 1) := by decide +kernel
theorem dX8_colours_23 : decode cX8_colours 23 = .ok (.iload 4, 2) := by decide +kernel
theorem dX8_colours_25 : decode cX8_colours 25 = .ok (.invokevirtual 173, 3) := by decide +kernel
theorem dX8_colours_28 : decode cX8_colours 28 = .ok (.iconst 1, 1) := by decide +kernel
theorem dX8_colours_29 : decode cX8_colours 29 = .ok (.iload 4, 2) := by decide +kernel
theorem dX8_colours_31 : decode cX8_colours 31 = .ok (.ishl, 1) := by decide +kernel
theorem dX8_colours_32 : decode cX8_colours 32 = .ok (.iconst 1, 1) := by decide +kernel
theorem dX8_colours_33 : decode cX8_colours 33 = .ok (.isub, 1) := by decide +kernel
theorem dX8_colours_34 : decode cX8_colours 34 = .ok (.iand, 1) := by decide +kernel
theorem dX8_colours_35 : decode cX8_colours 35 = .ok (.ifCond .ne 7, 3) := by decide +kernel
theorem dX8_colours_38 : decode cX8_colours 38 = .ok (.iconst 1, 1) := by decide +kernel
theorem dX8_colours_39 : decode cX8_colours 39 = .ok (.goto 4, 3) := by decide +kernel
theorem dX8_colours_42 : decode cX8_colours 42 = .ok (.iconst 0, 1) := by decide +kernel
theorem dX8_colours_43 : decode cX8_colours 43 = .ok (.istore 5, 2) := by decide +kernel
theorem dX8_colours_45 : decode cX8_colours 45 = .ok (.aload_n 0, 1) := by decide +kernel
theorem dX8_colours_46 : decode cX8_colours 46 = .ok (.getfield 35, 3) := by decide +kernel
theorem dX8_colours_49 : decode cX8_colours 49 = .ok (.iload 4, 2) := by decide +kernel
theorem dX8_colours_51 : decode cX8_colours 51 = .ok (.iload_n 3, 1) := by decide +kernel
theorem dX8_colours_52 : decode cX8_colours 52 = .ok (.iconst 1, 1) := by decide +kernel
theorem dX8_colours_53 : decode cX8_colours 53 = .ok (.if_icmp .ne 19, 3) := by decide +kernel
theorem dX8_colours_56 : decode cX8_colours 56 = .ok (.aload_n 0, 1) := by decide +kernel
theorem dX8_colours_57 : decode cX8_colours 57 = .ok (.getfield 28, 3) := by decide +kernel
theorem dX8_colours_60 : decode cX8_colours 60 = .ok (.iload 4, 2) := by decide +kernel
theorem dX8_colours_62 : decode cX8_colours 62 = .ok (.laload, 1) := by decide +kernel
theorem dX8_colours_63 : decode cX8_colours 63 = .ok (.lconst 1, 1) := by decide +kernel
theorem dX8_colours_64 : decode cX8_colours 64 = .ok (.iload_n 1, 1) := by decide +kernel
theorem dX8_colours_65 : decode cX8_colours 65 = .ok (.lshl, 1) := by decide +kernel
theorem dX8_colours_66 : decode cX8_colours 66 = .ok (.lconst 1, 1) := by decide +kernel
theorem dX8_colours_67 : decode cX8_colours 67 = .ok (.lsub, 1) := by decide +kernel
theorem dX8_colours_68 : decode cX8_colours 68 = .ok (.land, 1) := by decide +kernel
theorem dX8_colours_69 : decode cX8_colours 69 = .ok (.goto 17, 3) := by decide +kernel
theorem dX8_colours_72 : decode cX8_colours 72 = .ok (.iload 5, 2) := by decide +kernel
theorem dX8_colours_74 : decode cX8_colours 74 = .ok (.ifCond .eq 7, 3) := by decide +kernel
theorem dX8_colours_77 : decode cX8_colours 77 = .ok (.lconst 1, 1) := by decide +kernel
theorem dX8_colours_78 : decode cX8_colours 78 = .ok (.goto 8, 3) := by decide +kernel
theorem dX8_colours_81 : decode cX8_colours 81 = .ok (.lconst 1, 1) := by decide +kernel
theorem dX8_colours_82 : decode cX8_colours 82 = .ok (.iload_n 1, 1) := by decide +kernel
theorem dX8_colours_83 : decode cX8_colours 83 = .ok (.lshl, 1) := by decide +kernel
theorem dX8_colours_84 : decode cX8_colours 84 = .ok (.lconst 1, 1) := by decide +kernel
theorem dX8_colours_85 : decode cX8_colours 85 = .ok (.lsub, 1) := by decide +kernel
theorem dX8_colours_86 : decode cX8_colours 86 = .ok (.lastore, 1) := by decide +kernel
theorem dX8_colours_87 : decode cX8_colours 87 = .ok (.iinc 4 1, 3) := by decide +kernel
theorem dX8_colours_90 : decode cX8_colours 90 = .ok (.goto (-77), 3) := by decide +kernel
theorem dX8_colours_93 : decode cX8_colours 93 = .ok (.iconst 0, 1) := by decide +kernel
theorem dX8_colours_94 : decode cX8_colours 94 = .ok (.istore 4, 2) := by decide +kernel
theorem dX8_colours_96 : decode cX8_colours 96 = .ok (.iload 4, 2) := by decide +kernel
theorem dX8_colours_98 : decode cX8_colours 98 = .ok (.aload_n 0, 1) := by decide +kernel
theorem dX8_colours_99 : decode cX8_colours 99 = .ok (.getfield 95, 3) := by decide +kernel
theorem dX8_colours_102 : decode cX8_colours 102 = .ok (.if_icmp .ge 143, 3) := by decide +kernel
theorem dX8_colours_105 : decode cX8_colours 105 = .ok (.aload_n 0, 1) := by decide +kernel
theorem dX8_colours_106 : decode cX8_colours 106 = .ok (.iload 4, 2) := by decide +kernel
theorem dX8_colours_108 : decode cX8_colours 108 = .ok (.invokevirtual 173, 3) := by decide +kernel
theorem dX8_colours_111 : decode cX8_colours 111 = .ok (.iconst 2, 1) := by decide +kernel
theorem dX8_colours_112 : decode cX8_colours 112 = .ok (.iload 4, 2) := by decide +kernel
theorem dX8_colours_114 : decode cX8_colours 114 = .ok (.ishl, 1) := by decide +kernel
theorem dX8_colours_115 : decode cX8_colours 115 = .ok (.iconst 1, 1) := by decide +kernel
theorem dX8_colours_116 : decode cX8_colours 116 = .ok (.isub, 1) := by decide +kernel
theorem dX8_colours_117 : decode cX8_colours 117 = .ok (.iconst (-1), 1) := by decide +kernel
theorem dX8_colours_118 : decode cX8_colours 118 = .ok (.ixor, 1) := by decide +kernel
theorem dX8_colours_119 : decode cX8_colours 119 = .ok (.iand, 1) := by decide +kernel
theorem dX8_colours_120 : decode cX8_colours 120 = .ok (.istore 5, 2) := by decide +kernel
theorem dX8_colours_122 : decode cX8_colours 122 = .ok (.iconst 0, 1) := by decide +kernel
theorem dX8_colours_123 : decode cX8_colours 123 = .ok (.istore 6, 2) := by decide +kernel
theorem dX8_colours_125 : decode cX8_colours 125 = .ok (.iload 6, 2) := by decide +kernel
theorem dX8_colours_127 : decode cX8_colours 127 = .ok (.iload_n 1, 1) := by decide +kernel
theorem dX8_colours_128 : decode cX8_colours 128 = .ok (.if_icmp .ge 48, 3) := by decide +kernel
theorem dX8_colours_131 : decode cX8_colours 131 = .ok (.aload_n 0, 1) := by decide +kernel
theorem dX8_colours_132 : decode cX8_colours 132 = .ok (.getfield 35, 3) := by decide +kernel
theorem dX8_colours_135 : decode cX8_colours 135 = .ok (.iload 4, 2) := by decide +kernel
theorem dX8_colours_137 : decode cX8_colours 137 = .ok (.laload, 1) := by decide +kernel
theorem dX8_colours_138 : decode cX8_colours 138 = .ok (.iload 6, 2) := by decide +kernel
theorem dX8_colours_140 : decode cX8_colours 140 = .ok (.lshr, 1) := by decide +kernel
theorem dX8_colours_141 : decode cX8_colours 141 = .ok (.lconst 1, 1) := by decide +kernel
theorem dX8_colours_142 : decode cX8_colours 142 = .ok (.land, 1) := by decide +kernel
theorem dX8_colours_143 : decode cX8_colours 143 = .ok (.lconst 1, 1) := by decide +kernel
theorem dX8_colours_144 : decode cX8_colours 144 = .ok (.lcmp, 1) := by decide +kernel
theorem dX8_colours_145 : decode cX8_colours 145 = .ok (.ifCond .ne 25, 3) := by decide +kernel
theorem dX8_colours_148 : decode cX8_colours 148 = .ok (.aload_n 0, 1) := by decide +kernel
theorem dX8_colours_149 : decode cX8_colours 149 = .ok (.iconst 0, 1) := by decide +kernel
theorem dX8_colours_150 : decode cX8_colours 150 = .ok (.iload 4, 2) := by decide +kernel
theorem dX8_colours_152 : decode cX8_colours 152 = .ok (.iload 6, 2) := by decide +kernel
theorem dX8_colours_154 : decode cX8_colours 154 = .ok (.invokevirtual 166, 3) := by decide +kernel
theorem dX8_colours_157 : decode cX8_colours 157 = .ok (.ifCond .eq 13, 3) := by decide +kernel
theorem dX8_colours_160 : decode cX8_colours 160 = .ok (.aload_n 0, 1) := by decide +kernel
theorem dX8_colours_161 : decode cX8_colours 161 = .ok (.iconst 1, 1) := by decide +kernel
theorem dX8_colours_162 : decode cX8_colours 162 = .ok (.iload 5, 2) := by decide +kernel
theorem dX8_colours_164 : decode cX8_colours 164 = .ok (.invokevirtual 170, 3) := by decide +kernel
theorem dX8_colours_167 : decode cX8_colours 167 = .ok (.ifCond .ne 9, 3) := by decide +kernel
theorem dX8_colours_170 : decode cX8_colours 170 = .ok (.iinc 6 1, 3) := by decide +kernel
theorem dX8_colours_173 : decode cX8_colours 173 = .ok (.goto (-48), 3) := by decide +kernel
theorem dX8_colours_176 : decode cX8_colours 176 = .ok (.iload 6, 2) := by decide +kernel
theorem dX8_colours_178 : decode cX8_colours 178 = .ok (.iload_n 1, 1) := by decide +kernel
theorem dX8_colours_179 : decode cX8_colours 179 = .ok (.if_icmp .ne 5, 3) := by decide +kernel
theorem dX8_colours_182 : decode cX8_colours 182 = .ok (.iconst 0, 1) := by decide +kernel
theorem dX8_colours_183 : decode cX8_colours 183 = .ok (.ireturn, 1) := by decide +kernel
theorem dX8_colours_184 : decode cX8_colours 184 = .ok (.aload_n 0, 1) := by decide +kernel
theorem dX8_colours_185 : decode cX8_colours 185 = .ok (.iconst 0, 1) := by decide +kernel
theorem dX8_colours_186 : decode cX8_colours 186 = .ok (.iload 4, 2) := by decide +kernel
theorem dX8_colours_188 : decode cX8_colours 188 = .ok (.iload 6, 2) := by decide +kernel
theorem dX8_colours_190 : decode cX8_colours 190 = .ok (.invokevirtual 166, 3) := by decide +kernel
theorem dX8_colours_193 : decode cX8_colours 193 = .ok (.istore 7, 2) := by decide +kernel
theorem dX8_colours_195 : decode cX8_colours 195 = .ok (.iconst 0, 1) := by decide +kernel
theorem dX8_colours_196 : decode cX8_colours 196 = .ok (.istore 8, 2) := by decide +kernel
theorem dX8_colours_198 : decode cX8_colours 198 = .ok (.iload 8, 2) := by decide +kernel
theorem dX8_colours_200 : decode cX8_colours 200 = .ok (.aload_n 0, 1) := by decide +kernel
theorem dX8_colours_201 : decode cX8_colours 201 = .ok (.getfield 95, 3) := by decide +kernel
theorem dX8_colours_204 : decode cX8_colours 204 = .ok (.if_icmp .ge 26, 3) := by decide +kernel
theorem dX8_colours_207 : decode cX8_colours 207 = .ok (.aload_n 0, 1) := by decide +kernel
theorem dX8_colours_208 : decode cX8_colours 208 = .ok (.getfield 35, 3) := by decide +kernel
theorem dX8_colours_211 : decode cX8_colours 211 = .ok (.iload 8, 2) := by decide +kernel
theorem dX8_colours_213 : decode cX8_colours 213 = .ok (.aload_n 0, 1) := by decide +kernel
theorem dX8_colours_214 : decode cX8_colours 214 = .ok (.getfield 35, 3) := by decide +kernel
theorem dX8_colours_217 : decode cX8_colours 217 = .ok (.bipush 6, 2) := by decide +kernel
theorem dX8_colours_219 : decode cX8_colours 219 = .ok (.iload 8, 2) := by decide +kernel
theorem dX8_colours_221 : decode cX8_colours 221 = .ok (.iadd, 1) := by decide +kernel
theorem dX8_colours_222 : decode cX8_colours 222 = .ok (.laload, 1) := by decide +kernel
theorem dX8_colours_223 : decode cX8_colours 223 = .ok (.lastore, 1) := by decide +kernel
theorem dX8_colours_224 : decode cX8_colours 224 = .ok (.iinc 8 1, 3) := by decide +kernel
theorem dX8_colours_227 : decode cX8_colours 227 = .ok (.goto (-29), 3) := by decide +kernel
theorem dX8_colours_230 : decode cX8_colours 230 = .ok (.aload_n 0, 1) := by decide +kernel
theorem dX8_colours_231 : decode cX8_colours 231 = .ok (.getfield 38, 3) := by decide +kernel
theorem dX8_colours_234 : decode cX8_colours 234 = .ok (.iload 4, 2) := by decide +kernel
theorem dX8_colours_236 : decode cX8_colours 236 = .ok (.iload 6, 2) := by decide +kernel
theorem dX8_colours_238 : decode cX8_colours 238 = .ok (.iastore, 1) := by decide +kernel
theorem dX8_colours_239 : decode cX8_colours 239 = .ok (.iinc 4 1, 3) := by decide +kernel
theorem dX8_colours_242 : decode cX8_colours 242 = .ok (.goto (-146), 3) := by decide +kernel
theorem dX8_colours_245 : decode cX8_colours 245 = .ok (.iconst 1, 1) := by decide +kernel
theorem dX8_colours_246 : decode cX8_colours 246 = .ok (.ireturn, 1) := by decide +kernel
def f_X8_colours (N : Nat) (x1 : Int32) (x2 : Int32) (x3 : Int32) (M : Mem) : Option (Int32 × Mem) := nm (setI M 0 12 x1) (fun M1 => nm (setI M1 0 13 x2) (fun M2 => lp (fun (k13 : (Int32 × Mem) → Option (Int32 × Mem)) (a13 : Int32 × Mem) => if (a13.2.1 0 0) ≤ a13.1 then (lp (fun (k96 : (Int32 × Mem) → Option (Int32 × Mem)) (a96 : Int32 × Mem) => if (a96.2.1 0 0) ≤ a96.1 then (some ((1 : Int32), a96.2)) else (bd (f_X8_partOf N a96.1 a96.2) (fun v3 => nm (v3 &&& ((((2 : Int32) <<< (a96.1 &&& 31)) - (1 : Int32)) ^^^ (-1 : Int32))) (fun v5 => lp (fun (k125 : (Int32 × Mem) → Option (Int32 × Mem)) (a125 : Int32 × Mem) => jn (fun (a176 : Mem) => if a125.1 = x1 then (some ((0 : Int32), a176)) else (bd (f_X8_narrows N (0 : Int32) a96.1 a125.1 a176) (fun w8 => lp (fun (k198 : (Int32 × Mem) → Option (Int32 × Mem)) (a198 : Int32 × Mem) => if (a198.2.1 0 0) ≤ a198.1 then (ck (inb a96.1 6) (nm (setI a198.2 7 a96.1.toNatClampNeg a125.1) (fun M9 => nm (a96.1 + (1 : Int32)) (fun v10 => k96 (v10, M9))))) else (ck (inb ((6 : Int32) + a198.1) 42) (ck (inb a198.1 42) (nm (setJ a198.2 6 a198.1.toNatClampNeg (a198.2.2 6 ((6 : Int32) + a198.1).toNatClampNeg)) (fun M11 => nm (a198.1 + (1 : Int32)) (fun v12 => k198 (v12, M11))))))) N ((0 : Int32), w8.2)))) (fun (k176 : Mem → Option (Int32 × Mem)) => if x1 ≤ a125.1 then (k176 a125.2) else (ck (inb a96.1 42) (jn (fun (a170 : Mem) => nm (a125.1 + (1 : Int32)) (fun v13 => k125 (v13, a170))) (fun (k170 : Mem → Option (Int32 × Mem)) => if (lg_cmp (((a125.2.2 6 a96.1.toNatClampNeg) >>> (a125.1.toInt64 &&& 63)) &&& (1 : Int64)) (1 : Int64)) = 0 then (bd (f_X8_narrows N (0 : Int32) a96.1 a125.1 a125.2) (fun w16 => if w16.1 = 0 then (k170 w16.2) else (bd (f_X8_ends N 10 (1 : Int32) v5 w16.2) (fun w19 => if w19.1 = 0 then (k170 w19.2) else (k176 w19.2))))) else (k170 a125.2)))))) N ((0 : Int32), a96.2))))) N ((0 : Int32), a13.2)) else (bd (f_X8_partOf N a13.1 a13.2) (fun v20 => jn (fun (a43 : Int32) => jn (fun (a86 : Int64) => ck (inb a13.1 42) (nm (setJ a13.2 6 a13.1.toNatClampNeg a86) (fun M22 => nm (a13.1 + (1 : Int32)) (fun v23 => k13 (v23, M22))))) (fun (k86 : Int64 → Option (Int32 × Mem)) => if x3 = (1 : Int32) then (ck (inb a13.1 6) (k86 ((a13.2.2 5 a13.1.toNatClampNeg) &&& (((1 : Int64) <<< (x1.toInt64 &&& 63)) - (1 : Int64))))) else (if a43 = 0 then (k86 (((1 : Int64) <<< (x1.toInt64 &&& 63)) - (1 : Int64))) else (k86 (1 : Int64))))) (fun (k43 : Int32 → Option (Int32 × Mem)) => if (v20 &&& (((1 : Int32) <<< (a13.1 &&& 31)) - (1 : Int32))) = 0 then (k43 (1 : Int32)) else (k43 (0 : Int32)))))) N ((0 : Int32), M2)))
set_option maxRecDepth 100000 in
set_option maxHeartbeats 4000000 in
theorem c_X8_colours {l : Launch} {D : va_G} {ac : Nat → ClassId} {A : Nat → Prop} {ad : Nat → Nat} {rest : va_W} (N : Nat) (x1 : Int32) (x2 : Int32) (x3 : Int32)  (M : Mem) (r0 : Int32) (M0 : Mem) (hf : f_X8_colours N x1 x2 x3 M = some (r0, M0)) : CtI l D ac A tabM ad rest yX8_colours cX8_colours 9 .boolean 15 [.ref (ad 0), .int x1, .int x2, .int x3] M r0 M0 := by
  refine ct_ofI (own := RX8) (by decide +kernel) rfl (Nat.le_of_ble_eq_true rfl) ?_
  intro p e s m args below meth c C
  unfold f_X8_colours at hf
  refine a_L (L' := [(0, .ref (ad 0)), (1, .int x1), (2, .int x2), (3, .int x3)]) rfl ?_
  refine a_aload_n (pc := 0) C dX8_colours_0 0 rfl ?_
  refine a_iload_n (pc := 1) C dX8_colours_1 1 rfl ?_
  refine a_putI (pc := 2) C dX8_colours_2 fl_X8_148 tm_0 rfl hf (fun M1 hf => ?_)
  refine a_aload_n (pc := 5) C dX8_colours_5 0 rfl ?_
  refine a_iload_n (pc := 6) C dX8_colours_6 2 rfl ?_
  refine a_putI (pc := 7) C dX8_colours_7 fl_X8_151 tm_0 rfl hf (fun M2 hf => ?_)
  refine a_iconst (pc := 10) (v := 0) C dX8_colours_10 (by decide) ?_
  refine a_istore (pc := 11) [(4, .int (0 : Int32)), (0, .ref (ad 0)), (1, .int x1), (2, .int x2), (3, .int x3)] C dX8_colours_11 (by decide) rfl ?_
  refine a_sub [1, 2, 4, 0] rfl ?_
  refine a_lp 13 (fun a13 : Int32 × Mem => [(0, .ref (ad 0)), (1, .int x1), (3, .int x3), (4, .int a13.1)]) (fun a13 : Int32 × Mem => []) (fun a13 : Int32 × Mem => a13.2) (fun k13 a13 hk13 hf => ?_) N ((0 : Int32), M2) hf
  refine a_iload (pc := 13) C dX8_colours_13 3 rfl ?_
  refine a_aload_n (pc := 15) C dX8_colours_15 0 rfl ?_
  refine a_getI (pc := 16) C dX8_colours_16 fl_X8_95 tm_0 rfl ?_
  refine a_icmp_ge (pc := 19) 93 C dX8_colours_19 (by decide) hf (fun hf => ?_) (fun hf => ?_)
  · refine a_iconst (pc := 93) (v := 0) C dX8_colours_93 (by decide) ?_
    refine a_istore (pc := 94) [(4, .int (0 : Int32)), (0, .ref (ad 0)), (1, .int x1), (3, .int x3)] C dX8_colours_94 (by decide) rfl ?_
    refine a_sub [1, 2, 0] rfl ?_
    refine a_lp 96 (fun a96 : Int32 × Mem => [(0, .ref (ad 0)), (1, .int x1), (4, .int a96.1)]) (fun a96 : Int32 × Mem => []) (fun a96 : Int32 × Mem => a96.2) (fun k96 a96 hk96 hf => ?_) N ((0 : Int32), a13.2) hf
    refine a_iload (pc := 96) C dX8_colours_96 2 rfl ?_
    refine a_aload_n (pc := 98) C dX8_colours_98 0 rfl ?_
    refine a_getI (pc := 99) C dX8_colours_99 fl_X8_95 tm_0 rfl ?_
    refine a_icmp_ge (pc := 102) 245 C dX8_colours_102 (by decide) hf (fun hf => ?_) (fun hf => ?_)
    · refine a_iconst (pc := 245) (v := 1) C dX8_colours_245 (by decide) ?_
      exact a_zret (pc := 246) C dX8_colours_246 (Or.inr rfl) (so_1 hf) (so_2 hf)
    · refine a_aload_n (pc := 105) C dX8_colours_105 0 rfl ?_
      refine a_iload (pc := 106) C dX8_colours_106 2 rfl ?_
      refine a_callV_Ir (pc := 108) (d' := 2) C dX8_colours_108 ml_X8_173 mc_X8_partOf mv_X8_partOf tm_0 rfl [.int a96.1] rfl (Nat.le_of_ble_eq_true rfl) (Nat.le_of_ble_eq_true rfl) rfl (Nat.le_of_ble_eq_true rfl) (fun r h => c_X8_partOf N a96.1  _  r h) hf (fun v3 hf => ?_)
      refine a_iconst (pc := 111) (v := 2) C dX8_colours_111 (by decide) ?_
      refine a_iload (pc := 112) C dX8_colours_112 2 rfl ?_
      refine a_ishl (pc := 114) C dX8_colours_114 ?_
      refine a_iconst (pc := 115) (v := 1) C dX8_colours_115 (by decide) ?_
      refine a_isub (pc := 116) C dX8_colours_116 ?_
      refine a_iconst (pc := 117) (v := (-1)) C dX8_colours_117 (by decide) ?_
      refine a_ixor (pc := 118) C dX8_colours_118 ?_
      refine a_iand (pc := 119) C dX8_colours_119 ?_
      refine a_nmi hf (fun v5 hf => ?_)
      refine a_istore (pc := 120) [(5, .int v5), (0, .ref (ad 0)), (1, .int x1), (4, .int a96.1)] C dX8_colours_120 (by decide) rfl ?_
      refine a_iconst (pc := 122) (v := 0) C dX8_colours_122 (by decide) ?_
      refine a_istore (pc := 123) [(6, .int (0 : Int32)), (5, .int v5), (0, .ref (ad 0)), (1, .int x1), (4, .int a96.1)] C dX8_colours_123 (by decide) rfl ?_
      refine a_sub [2, 3, 4, 1, 0] rfl ?_
      refine a_lp 125 (fun a125 : Int32 × Mem => [(0, .ref (ad 0)), (1, .int x1), (4, .int a96.1), (5, .int v5), (6, .int a125.1)]) (fun a125 : Int32 × Mem => []) (fun a125 : Int32 × Mem => a125.2) (fun k125 a125 hk125 hf => ?_) N ((0 : Int32), a96.2) hf
      refine a_iload (pc := 125) C dX8_colours_125 4 rfl ?_
      refine a_iload_n (pc := 127) C dX8_colours_127 1 rfl ?_
      refine a_jn 176 (fun a176 : Mem => [(0, .ref (ad 0)), (1, .int x1), (4, .int a96.1), (6, .int a125.1)]) (fun a176 : Mem => []) (fun a176 : Mem => a176) hf (fun a176 hf => ?_) (fun k176 hk176 hf => ?_)
      · refine a_iload (pc := 176) C dX8_colours_176 3 rfl ?_
        refine a_iload_n (pc := 178) C dX8_colours_178 1 rfl ?_
        refine a_icmp_ne (pc := 179) 184 C dX8_colours_179 (by decide) hf (fun hf => ?_) (fun hf => ?_)
        · refine a_aload_n (pc := 184) C dX8_colours_184 0 rfl ?_
          refine a_iconst (pc := 185) (v := 0) C dX8_colours_185 (by decide) ?_
          refine a_iload (pc := 186) C dX8_colours_186 2 rfl ?_
          refine a_iload (pc := 188) C dX8_colours_188 3 rfl ?_
          refine a_callV_I (pc := 190) (d' := 3) C dX8_colours_190 ml_X8_166 mc_X8_narrows mv_X8_narrows tm_0 rfl [.int (0 : Int32), .int a96.1, .int a125.1] rfl (Nat.le_of_ble_eq_true rfl) (Nat.le_of_ble_eq_true rfl) rfl (Nat.le_of_ble_eq_true rfl) (fun r M' h => c_X8_narrows N (0 : Int32) a96.1 a125.1  _  r M' h) hf (fun v6 M7 hf => ?_)
          refine a_istore (pc := 193) [(7, .int v6), (0, .ref (ad 0)), (1, .int x1), (4, .int a96.1), (6, .int a125.1)] C dX8_colours_193 (by decide) rfl ?_
          refine a_iconst (pc := 195) (v := 0) C dX8_colours_195 (by decide) ?_
          refine a_istore (pc := 196) [(8, .int (0 : Int32)), (7, .int v6), (0, .ref (ad 0)), (1, .int x1), (4, .int a96.1), (6, .int a125.1)] C dX8_colours_196 (by decide) rfl ?_
          refine a_sub [2, 3, 4, 5, 0] rfl ?_
          refine a_lp 198 (fun a198 : Int32 × Mem => [(0, .ref (ad 0)), (1, .int x1), (4, .int a96.1), (6, .int a125.1), (8, .int a198.1)]) (fun a198 : Int32 × Mem => []) (fun a198 : Int32 × Mem => a198.2) (fun k198 a198 hk198 hf => ?_) N ((0 : Int32), M7) hf
          refine a_iload (pc := 198) C dX8_colours_198 4 rfl ?_
          refine a_aload_n (pc := 200) C dX8_colours_200 0 rfl ?_
          refine a_getI (pc := 201) C dX8_colours_201 fl_X8_95 tm_0 rfl ?_
          refine a_icmp_ge (pc := 204) 230 C dX8_colours_204 (by decide) hf (fun hf => ?_) (fun hf => ?_)
          · refine a_aload_n (pc := 230) C dX8_colours_230 0 rfl ?_
            refine a_getR (pc := 231) C dX8_colours_231 fl_X8_38 tm_0 rfl ?_
            refine a_iload (pc := 234) C dX8_colours_234 2 rfl ?_
            refine a_iload (pc := 236) C dX8_colours_236 3 rfl ?_
            refine a_iast (pc := 238) C dX8_colours_238 tm_7 hf (fun M9 hf => ?_)
            refine a_iinc (pc := 239) (v := 1) (fun v10 => [(4, .int v10), (0, .ref (ad 0)), (1, .int x1), (6, .int a125.1), (8, .int a198.1)]) C dX8_colours_239 2 rfl (by decide) (by decide) (fun _ => rfl) hf (fun v10 hf => ?_)
            refine a_goto (pc := 242) 96 C dX8_colours_242 (by decide) ?_
            exact a_sub [1, 2, 0] rfl (hk96 (v10, M9) hf)
          · refine a_aload_n (pc := 207) C dX8_colours_207 0 rfl ?_
            refine a_getR (pc := 208) C dX8_colours_208 fl_X8_35 tm_0 rfl ?_
            refine a_iload (pc := 211) C dX8_colours_211 4 rfl ?_
            refine a_aload_n (pc := 213) C dX8_colours_213 0 rfl ?_
            refine a_getR (pc := 214) C dX8_colours_214 fl_X8_35 tm_0 rfl ?_
            refine a_bipush (pc := 217) (v := 6) C dX8_colours_217 (by decide) ?_
            refine a_iload (pc := 219) C dX8_colours_219 4 rfl ?_
            refine a_iadd (pc := 221) C dX8_colours_221 ?_
            refine a_lald (pc := 222) C dX8_colours_222 tm_6 hf (fun hf => ?_)
            refine a_last (pc := 223) C dX8_colours_223 tm_6 hf (fun M11 hf => ?_)
            refine a_iinc (pc := 224) (v := 1) (fun v12 => [(8, .int v12), (0, .ref (ad 0)), (1, .int x1), (4, .int a96.1), (6, .int a125.1)]) C dX8_colours_224 4 rfl (by decide) (by decide) (fun _ => rfl) hf (fun v12 hf => ?_)
            refine a_goto (pc := 227) 198 C dX8_colours_227 (by decide) ?_
            exact a_sub [1, 2, 3, 4, 0] rfl (hk198 (v12, M11) hf)
        · refine a_iconst (pc := 182) (v := 0) C dX8_colours_182 (by decide) ?_
          exact a_zret (pc := 183) C dX8_colours_183 (Or.inl rfl) (so_1 hf) (so_2 hf)
      · refine a_icmp_ge (pc := 128) 176 C dX8_colours_128 (by decide) hf (fun hf => ?_) (fun hf => ?_)
        · exact a_sub [0, 1, 2, 4] rfl (hk176 a125.2 hf)
        · refine a_aload_n (pc := 131) C dX8_colours_131 0 rfl ?_
          refine a_getR (pc := 132) C dX8_colours_132 fl_X8_35 tm_0 rfl ?_
          refine a_iload (pc := 135) C dX8_colours_135 2 rfl ?_
          refine a_lald (pc := 137) C dX8_colours_137 tm_6 hf (fun hf => ?_)
          refine a_iload (pc := 138) C dX8_colours_138 4 rfl ?_
          refine a_lshr (pc := 140) C dX8_colours_140 ?_
          refine a_lconst (pc := 141) (v := 1) C dX8_colours_141 (by decide) ?_
          refine a_land (pc := 142) C dX8_colours_142 ?_
          refine a_lconst (pc := 143) (v := 1) C dX8_colours_143 (by decide) ?_
          refine a_lcmp (pc := 144) C dX8_colours_144 ?_
          refine a_jn 170 (fun a170 : Mem => [(0, .ref (ad 0)), (1, .int x1), (4, .int a96.1), (5, .int v5), (6, .int a125.1)]) (fun a170 : Mem => []) (fun a170 : Mem => a170) hf (fun a170 hf => ?_) (fun k170 hk170 hf => ?_)
          · refine a_iinc (pc := 170) (v := 1) (fun v13 => [(6, .int v13), (0, .ref (ad 0)), (1, .int x1), (4, .int a96.1), (5, .int v5)]) C dX8_colours_170 4 rfl (by decide) (by decide) (fun _ => rfl) hf (fun v13 hf => ?_)
            refine a_goto (pc := 173) 125 C dX8_colours_173 (by decide) ?_
            exact a_sub [1, 2, 3, 4, 0] rfl (hk125 (v13, a170) hf)
          · refine a_if_ne (pc := 145) 170 C dX8_colours_145 (by decide) hf (fun hf => ?_) (fun hf => ?_)
            · exact a_sub [0, 1, 2, 3, 4] rfl (hk170 a125.2 hf)
            · refine a_aload_n (pc := 148) C dX8_colours_148 0 rfl ?_
              refine a_iconst (pc := 149) (v := 0) C dX8_colours_149 (by decide) ?_
              refine a_iload (pc := 150) C dX8_colours_150 2 rfl ?_
              refine a_iload (pc := 152) C dX8_colours_152 4 rfl ?_
              refine a_callV_I (pc := 154) (d' := 3) C dX8_colours_154 ml_X8_166 mc_X8_narrows mv_X8_narrows tm_0 rfl [.int (0 : Int32), .int a96.1, .int a125.1] rfl (Nat.le_of_ble_eq_true rfl) (Nat.le_of_ble_eq_true rfl) rfl (Nat.le_of_ble_eq_true rfl) (fun r M' h => c_X8_narrows N (0 : Int32) a96.1 a125.1  _  r M' h) hf (fun v14 M15 hf => ?_)
              refine a_if_eq (pc := 157) 170 C dX8_colours_157 (by decide) hf (fun hf => ?_) (fun hf => ?_)
              · exact a_sub [0, 1, 2, 3, 4] rfl (hk170 M15 hf)
              · refine a_aload_n (pc := 160) C dX8_colours_160 0 rfl ?_
                refine a_iconst (pc := 161) (v := 1) C dX8_colours_161 (by decide) ?_
                refine a_iload (pc := 162) C dX8_colours_162 3 rfl ?_
                refine a_callV_I (pc := 164) (d' := 14) C dX8_colours_164 ml_X8_170 mc_X8_ends mv_X8_ends tm_0 rfl [.int (1 : Int32), .int v5] rfl (Nat.le_of_ble_eq_true rfl) (Nat.le_of_ble_eq_true rfl) rfl (Nat.le_of_ble_eq_true rfl) (fun r M' h => c_X8_ends N 10 (1 : Int32) v5  _  r M' h) hf (fun v17 M18 hf => ?_)
                refine a_if_ne (pc := 167) 176 C dX8_colours_167 (by decide) hf (fun hf => ?_) (fun hf => ?_)
                · exact a_sub [0, 1, 2, 4] rfl (hk176 M18 hf)
                · exact a_sub [0, 1, 2, 3, 4] rfl (hk170 M18 hf)
  · refine a_aload_n (pc := 22) C dX8_colours_22 0 rfl ?_
    refine a_iload (pc := 23) C dX8_colours_23 3 rfl ?_
    refine a_callV_Ir (pc := 25) (d' := 2) C dX8_colours_25 ml_X8_173 mc_X8_partOf mv_X8_partOf tm_0 rfl [.int a13.1] rfl (Nat.le_of_ble_eq_true rfl) (Nat.le_of_ble_eq_true rfl) rfl (Nat.le_of_ble_eq_true rfl) (fun r h => c_X8_partOf N a13.1  _  r h) hf (fun v20 hf => ?_)
    refine a_iconst (pc := 28) (v := 1) C dX8_colours_28 (by decide) ?_
    refine a_iload (pc := 29) C dX8_colours_29 3 rfl ?_
    refine a_ishl (pc := 31) C dX8_colours_31 ?_
    refine a_iconst (pc := 32) (v := 1) C dX8_colours_32 (by decide) ?_
    refine a_isub (pc := 33) C dX8_colours_33 ?_
    refine a_iand (pc := 34) C dX8_colours_34 ?_
    refine a_jn 43 (fun a43 : Int32 => [(0, .ref (ad 0)), (1, .int x1), (3, .int x3), (4, .int a13.1)]) (fun a43 : Int32 => [.int a43]) (fun a43 : Int32 => a13.2) hf (fun a43 hf => ?_) (fun k43 hk43 hf => ?_)
    · refine a_istore (pc := 43) [(5, .int a43), (0, .ref (ad 0)), (1, .int x1), (3, .int x3), (4, .int a13.1)] C dX8_colours_43 (by decide) rfl ?_
      refine a_aload_n (pc := 45) C dX8_colours_45 1 rfl ?_
      refine a_getR (pc := 46) C dX8_colours_46 fl_X8_35 tm_0 rfl ?_
      refine a_iload (pc := 49) C dX8_colours_49 4 rfl ?_
      refine a_iload_n (pc := 51) C dX8_colours_51 3 rfl ?_
      refine a_iconst (pc := 52) (v := 1) C dX8_colours_52 (by decide) ?_
      refine a_jn 86 (fun a86 : Int64 => [(0, .ref (ad 0)), (1, .int x1), (3, .int x3), (4, .int a13.1)]) (fun a86 : Int64 => [.long a86, .int a13.1, .ref (ad 6)]) (fun a86 : Int64 => a13.2) hf (fun a86 hf => ?_) (fun k86 hk86 hf => ?_)
      · refine a_last (pc := 86) C dX8_colours_86 tm_6 hf (fun M22 hf => ?_)
        refine a_iinc (pc := 87) (v := 1) (fun v23 => [(4, .int v23), (0, .ref (ad 0)), (1, .int x1), (3, .int x3)]) C dX8_colours_87 3 rfl (by decide) (by decide) (fun _ => rfl) hf (fun v23 hf => ?_)
        refine a_goto (pc := 90) 13 C dX8_colours_90 (by decide) ?_
        exact a_sub [1, 2, 3, 0] rfl (hk13 (v23, M22) hf)
      · refine a_icmp_ne (pc := 53) 72 C dX8_colours_53 (by decide) hf (fun hf => ?_) (fun hf => ?_)
        · refine a_iload (pc := 72) C dX8_colours_72 0 rfl ?_
          refine a_if_eq (pc := 74) 81 C dX8_colours_74 (by decide) hf (fun hf => ?_) (fun hf => ?_)
          · refine a_lconst (pc := 81) (v := 1) C dX8_colours_81 (by decide) ?_
            refine a_iload_n (pc := 82) C dX8_colours_82 2 rfl ?_
            refine a_lshl (pc := 83) C dX8_colours_83 ?_
            refine a_lconst (pc := 84) (v := 1) C dX8_colours_84 (by decide) ?_
            refine a_lsub (pc := 85) C dX8_colours_85 ?_
            exact a_sub [1, 2, 3, 4] rfl (hk86 (((1 : Int64) <<< (x1.toInt64 &&& 63)) - (1 : Int64)) hf)
          · refine a_lconst (pc := 77) (v := 1) C dX8_colours_77 (by decide) ?_
            refine a_goto (pc := 78) 86 C dX8_colours_78 (by decide) ?_
            exact a_sub [1, 2, 3, 4] rfl (hk86 (1 : Int64) hf)
        · refine a_aload_n (pc := 56) C dX8_colours_56 1 rfl ?_
          refine a_getR (pc := 57) C dX8_colours_57 fl_X8_28 tm_0 rfl ?_
          refine a_iload (pc := 60) C dX8_colours_60 4 rfl ?_
          refine a_lald (pc := 62) C dX8_colours_62 tm_5 hf (fun hf => ?_)
          refine a_lconst (pc := 63) (v := 1) C dX8_colours_63 (by decide) ?_
          refine a_iload_n (pc := 64) C dX8_colours_64 2 rfl ?_
          refine a_lshl (pc := 65) C dX8_colours_65 ?_
          refine a_lconst (pc := 66) (v := 1) C dX8_colours_66 (by decide) ?_
          refine a_lsub (pc := 67) C dX8_colours_67 ?_
          refine a_land (pc := 68) C dX8_colours_68 ?_
          refine a_goto (pc := 69) 86 C dX8_colours_69 (by decide) ?_
          exact a_sub [1, 2, 3, 4] rfl (hk86 ((a13.2.2 5 a13.1.toNatClampNeg) &&& (((1 : Int64) <<< (x1.toInt64 &&& 63)) - (1 : Int64))) hf)
    · refine a_if_ne (pc := 35) 42 C dX8_colours_35 (by decide) hf (fun hf => ?_) (fun hf => ?_)
      · refine a_iconst (pc := 42) (v := 0) C dX8_colours_42 (by decide) ?_
        exact a_sub [0, 1, 2, 3] rfl (hk43 (0 : Int32) hf)
      · refine a_iconst (pc := 38) (v := 1) C dX8_colours_38 (by decide) ?_
        refine a_goto (pc := 39) 43 C dX8_colours_39 (by decide) ?_
        exact a_sub [0, 1, 2, 3] rfl (hk43 (1 : Int32) hf)
theorem dX8_ways_0 : decode cX8_ways 0 = .ok (.iload_n 1, 1) := by decide +kernel
theorem dX8_ways_1 : decode cX8_ways 1 = .ok (.i2l, 1) := by decide +kernel
theorem dX8_ways_2 : decode cX8_ways 2 = .ok (.lconst 1, 1) := by decide +kernel
theorem dX8_ways_3 : decode cX8_ways 3 = .ok (.ldc2_w 195, 3) := by decide +kernel
theorem dX8_ways_6 : decode cX8_ways 6 = .ok (.invokestatic 98, 3) := by decide +kernel
theorem dX8_ways_9 : decode cX8_ways 9 = .ok (.ifCond .eq 25, 3) := by decide +kernel
theorem dX8_ways_12 : decode cX8_ways 12 = .ok (.iload_n 2, 1) := by decide +kernel
theorem dX8_ways_13 : decode cX8_ways 13 = .ok (.i2l, 1) := by decide +kernel
theorem dX8_ways_14 : decode cX8_ways 14 = .ok (.lconst 1, 1) := by decide +kernel
theorem dX8_ways_15 : decode cX8_ways 15 = .ok (.ldc2_w 112, 3) := by decide +kernel
theorem dX8_ways_18 : decode cX8_ways 18 = .ok (.invokestatic 98, 3) := by decide +kernel
theorem dX8_ways_21 : decode cX8_ways 21 = .ok (.ifCond .eq 13, 3) := by decide +kernel
theorem dX8_ways_24 : decode cX8_ways 24 = .ok (.iload_n 3, 1) := by decide +kernel
theorem dX8_ways_25 : decode cX8_ways 25 = .ok (.i2l, 1) := by decide +kernel
theorem dX8_ways_26 : decode cX8_ways 26 = .ok (.lconst 0, 1) := by decide +kernel
theorem dX8_ways_27 : decode cX8_ways 27 = .ok (.lconst 1, 1) := by decide +kernel
theorem dX8_ways_28 : decode cX8_ways 28 = .ok (.invokestatic 98, 3) := by decide +kernel
theorem dX8_ways_31 : decode cX8_ways 31 = .ok (.ifCond .ne 6, 3) := by decide +kernel
theorem dX8_ways_34 : decode cX8_ways 34 = .ok (.bipush (-2), 2) := by decide +kernel
theorem dX8_ways_36 : decode cX8_ways 36 = .ok (.ireturn, 1) := by decide +kernel
theorem dX8_ways_37 : decode cX8_ways 37 = .ok (.aload_n 0, 1) := by decide +kernel
theorem dX8_ways_38 : decode cX8_ways 38 = .ok (.iload_n 1, 1) := by decide +kernel
theorem dX8_ways_39 : decode cX8_ways 39 = .ok (.putfield 148, 3) := by decide +kernel
theorem dX8_ways_42 : decode cX8_ways 42 = .ok (.aload_n 0, 1) := by decide +kernel
theorem dX8_ways_43 : decode cX8_ways 43 = .ok (.iload_n 2, 1) := by decide +kernel
theorem dX8_ways_44 : decode cX8_ways 44 = .ok (.putfield 151, 3) := by decide +kernel
theorem dX8_ways_47 : decode cX8_ways 47 = .ok (.aload_n 0, 1) := by decide +kernel
theorem dX8_ways_48 : decode cX8_ways 48 = .ok (.iconst 0, 1) := by decide +kernel
theorem dX8_ways_49 : decode cX8_ways 49 = .ok (.iload_n 3, 1) := by decide +kernel
theorem dX8_ways_50 : decode cX8_ways 50 = .ok (.invokevirtual 192, 3) := by decide +kernel
theorem dX8_ways_53 : decode cX8_ways 53 = .ok (.ireturn, 1) := by decide +kernel
def f_X8_ways (N : Nat) (x1 : Int32) (x2 : Int32) (x3 : Int32) (M : Mem) : Option (Int32 × Mem) := bd (f_X8_in N x1.toInt64 (1 : Int64) (8 : Int64) M) (fun v1 => if v1 = 0 then (some ((-2 : Int32), M)) else (bd (f_X8_in N x2.toInt64 (1 : Int64) (6 : Int64) M) (fun v3 => if v3 = 0 then (some ((-2 : Int32), M)) else (bd (f_X8_in N x3.toInt64 (0 : Int64) (1 : Int64) M) (fun v5 => if v5 = 0 then (some ((-2 : Int32), M)) else (nm (setI M 0 12 x1) (fun M7 => nm (setI M7 0 13 x2) (fun M8 => bd (f_X8_waysFrom N 10 (0 : Int32) x3 M8) (fun w11 => some (w11.1, w11.2))))))))))
set_option maxRecDepth 100000 in
set_option maxHeartbeats 4000000 in
theorem c_X8_ways {l : Launch} {D : va_G} {ac : Nat → ClassId} {A : Nat → Prop} {ad : Nat → Nat} {rest : va_W} (N : Nat) (x1 : Int32) (x2 : Int32) (x3 : Int32)  (M : Mem) (r0 : Int32) (M0 : Mem) (hf : f_X8_ways N x1 x2 x3 M = some (r0, M0)) : CtI l D ac A tabM ad rest yX8_ways cX8_ways 4 .int 15 [.ref (ad 0), .int x1, .int x2, .int x3] M r0 M0 := by
  refine ct_ofI (own := RX8) (by decide +kernel) rfl (Nat.le_of_ble_eq_true rfl) ?_
  intro p e s m args below meth c C
  unfold f_X8_ways at hf
  refine a_L (L' := [(0, .ref (ad 0)), (1, .int x1), (2, .int x2), (3, .int x3)]) rfl ?_
  refine a_iload_n (pc := 0) C dX8_ways_0 1 rfl ?_
  refine a_i2l (pc := 1) C dX8_ways_1 ?_
  refine a_lconst (pc := 2) (v := 1) C dX8_ways_2 (by decide) ?_
  refine a_ldc2 (pc := 3) C dX8_ways_3 cj_X8_195 ?_
  refine a_callS_Ir (pc := 6) (d' := 1) C dX8_ways_6 ml_X8_98 mc_X8_in ms_X8_in [.long x1.toInt64, .long (1 : Int64), .long (8 : Int64)] rfl (Nat.le_of_ble_eq_true rfl) (Nat.le_of_ble_eq_true rfl) rfl (Nat.le_of_ble_eq_true rfl) (fun r h => c_X8_in N x1.toInt64 (1 : Int64) (8 : Int64)  _  r h) hf (fun v1 hf => ?_)
  refine a_if_eq (pc := 9) 34 C dX8_ways_9 (by decide) hf (fun hf => ?_) (fun hf => ?_)
  · refine a_bipush (pc := 34) (v := (-2)) C dX8_ways_34 (by decide) ?_
    exact a_iret (pc := 36) C dX8_ways_36 (so_1 hf) (so_2 hf)
  · refine a_iload_n (pc := 12) C dX8_ways_12 2 rfl ?_
    refine a_i2l (pc := 13) C dX8_ways_13 ?_
    refine a_lconst (pc := 14) (v := 1) C dX8_ways_14 (by decide) ?_
    refine a_ldc2 (pc := 15) C dX8_ways_15 cj_X8_112 ?_
    refine a_callS_Ir (pc := 18) (d' := 1) C dX8_ways_18 ml_X8_98 mc_X8_in ms_X8_in [.long x2.toInt64, .long (1 : Int64), .long (6 : Int64)] rfl (Nat.le_of_ble_eq_true rfl) (Nat.le_of_ble_eq_true rfl) rfl (Nat.le_of_ble_eq_true rfl) (fun r h => c_X8_in N x2.toInt64 (1 : Int64) (6 : Int64)  _  r h) hf (fun v3 hf => ?_)
    refine a_if_eq (pc := 21) 34 C dX8_ways_21 (by decide) hf (fun hf => ?_) (fun hf => ?_)
    · refine a_bipush (pc := 34) (v := (-2)) C dX8_ways_34 (by decide) ?_
      exact a_iret (pc := 36) C dX8_ways_36 (so_1 hf) (so_2 hf)
    · refine a_iload_n (pc := 24) C dX8_ways_24 3 rfl ?_
      refine a_i2l (pc := 25) C dX8_ways_25 ?_
      refine a_lconst (pc := 26) (v := 0) C dX8_ways_26 (by decide) ?_
      refine a_lconst (pc := 27) (v := 1) C dX8_ways_27 (by decide) ?_
      refine a_callS_Ir (pc := 28) (d' := 1) C dX8_ways_28 ml_X8_98 mc_X8_in ms_X8_in [.long x3.toInt64, .long (0 : Int64), .long (1 : Int64)] rfl (Nat.le_of_ble_eq_true rfl) (Nat.le_of_ble_eq_true rfl) rfl (Nat.le_of_ble_eq_true rfl) (fun r h => c_X8_in N x3.toInt64 (0 : Int64) (1 : Int64)  _  r h) hf (fun v5 hf => ?_)
      refine a_if_ne (pc := 31) 37 C dX8_ways_31 (by decide) hf (fun hf => ?_) (fun hf => ?_)
      · refine a_aload_n (pc := 37) C dX8_ways_37 0 rfl ?_
        refine a_iload_n (pc := 38) C dX8_ways_38 1 rfl ?_
        refine a_putI (pc := 39) C dX8_ways_39 fl_X8_148 tm_0 rfl hf (fun M7 hf => ?_)
        refine a_aload_n (pc := 42) C dX8_ways_42 0 rfl ?_
        refine a_iload_n (pc := 43) C dX8_ways_43 2 rfl ?_
        refine a_putI (pc := 44) C dX8_ways_44 fl_X8_151 tm_0 rfl hf (fun M8 hf => ?_)
        refine a_aload_n (pc := 47) C dX8_ways_47 0 rfl ?_
        refine a_iconst (pc := 48) (v := 0) C dX8_ways_48 (by decide) ?_
        refine a_iload_n (pc := 49) C dX8_ways_49 3 rfl ?_
        refine a_callV_I (pc := 50) (d' := 14) C dX8_ways_50 ml_X8_192 mc_X8_waysFrom mv_X8_waysFrom tm_0 rfl [.int (0 : Int32), .int x3] rfl (Nat.le_of_ble_eq_true rfl) (Nat.le_of_ble_eq_true rfl) rfl (Nat.le_of_ble_eq_true rfl) (fun r M' h => c_X8_waysFrom N 10 (0 : Int32) x3  _  r M' h) hf (fun v9 M10 hf => ?_)
        exact a_iret (pc := 53) C dX8_ways_53 (so_1 hf) (so_2 hf)
      · refine a_bipush (pc := 34) (v := (-2)) C dX8_ways_34 (by decide) ?_
        exact a_iret (pc := 36) C dX8_ways_36 (so_1 hf) (so_2 hf)
theorem dX8_fits_0 : decode cX8_fits 0 = .ok (.iload_n 1, 1) := by decide +kernel
theorem dX8_fits_1 : decode cX8_fits 1 = .ok (.iload_n 2, 1) := by decide +kernel
theorem dX8_fits_2 : decode cX8_fits 2 = .ok (.iload_n 3, 1) := by decide +kernel
theorem dX8_fits_3 : decode cX8_fits 3 = .ok (.invokestatic 180, 3) := by decide +kernel
theorem dX8_fits_6 : decode cX8_fits 6 = .ok (.ifCond .ne 8, 3) := by decide +kernel
theorem dX8_fits_9 : decode cX8_fits 9 = .ok (.bipush (-2), 2) := by decide +kernel
theorem dX8_fits_11 : decode cX8_fits 11 = .ok (.goto 18, 3) := by decide +kernel
theorem dX8_fits_14 : decode cX8_fits 14 = .ok (.aload_n 0, 1) := by decide +kernel
theorem dX8_fits_15 : decode cX8_fits 15 = .ok (.iload_n 1, 1) := by decide +kernel
theorem dX8_fits_16 : decode cX8_fits 16 = .ok (.iload_n 2, 1) := by decide +kernel
theorem dX8_fits_17 : decode cX8_fits 17 = .ok (.iload_n 3, 1) := by decide +kernel
theorem dX8_fits_18 : decode cX8_fits 18 = .ok (.invokevirtual 183, 3) := by decide +kernel
theorem dX8_fits_21 : decode cX8_fits 21 = .ok (.ifCond .eq 7, 3) := by decide +kernel
theorem dX8_fits_24 : decode cX8_fits 24 = .ok (.iconst 1, 1) := by decide +kernel
theorem dX8_fits_25 : decode cX8_fits 25 = .ok (.goto 4, 3) := by decide +kernel
theorem dX8_fits_28 : decode cX8_fits 28 = .ok (.iconst 0, 1) := by decide +kernel
theorem dX8_fits_29 : decode cX8_fits 29 = .ok (.ireturn, 1) := by decide +kernel
def f_X8_fits (N : Nat) (x1 : Int32) (x2 : Int32) (x3 : Int32) (M : Mem) : Option (Int32 × Mem) := bd (f_X8_areAsked N x1 x2 x3 M) (fun v1 => if v1 = 0 then (some ((-2 : Int32), M)) else (bd (f_X8_colours N x1 x2 x3 M) (fun w5 => if w5.1 = 0 then (some ((0 : Int32), w5.2)) else (some ((1 : Int32), w5.2)))))
set_option maxRecDepth 100000 in
set_option maxHeartbeats 4000000 in
theorem c_X8_fits {l : Launch} {D : va_G} {ac : Nat → ClassId} {A : Nat → Prop} {ad : Nat → Nat} {rest : va_W} (N : Nat) (x1 : Int32) (x2 : Int32) (x3 : Int32)  (M : Mem) (r0 : Int32) (M0 : Mem) (hf : f_X8_fits N x1 x2 x3 M = some (r0, M0)) : CtI l D ac A tabM ad rest yX8_fits cX8_fits 4 .int 16 [.ref (ad 0), .int x1, .int x2, .int x3] M r0 M0 := by
  refine ct_ofI (own := RX8) (by decide +kernel) rfl (Nat.le_of_ble_eq_true rfl) ?_
  intro p e s m args below meth c C
  unfold f_X8_fits at hf
  refine a_L (L' := [(0, .ref (ad 0)), (1, .int x1), (2, .int x2), (3, .int x3)]) rfl ?_
  refine a_iload_n (pc := 0) C dX8_fits_0 1 rfl ?_
  refine a_iload_n (pc := 1) C dX8_fits_1 2 rfl ?_
  refine a_iload_n (pc := 2) C dX8_fits_2 3 rfl ?_
  refine a_callS_Ir (pc := 3) (d' := 2) C dX8_fits_3 ml_X8_180 mc_X8_areAsked ms_X8_areAsked [.int x1, .int x2, .int x3] rfl (Nat.le_of_ble_eq_true rfl) (Nat.le_of_ble_eq_true rfl) rfl (Nat.le_of_ble_eq_true rfl) (fun r h => c_X8_areAsked N x1 x2 x3  _  r h) hf (fun v1 hf => ?_)
  refine a_if_ne (pc := 6) 14 C dX8_fits_6 (by decide) hf (fun hf => ?_) (fun hf => ?_)
  · refine a_aload_n (pc := 14) C dX8_fits_14 0 rfl ?_
    refine a_iload_n (pc := 15) C dX8_fits_15 1 rfl ?_
    refine a_iload_n (pc := 16) C dX8_fits_16 2 rfl ?_
    refine a_iload_n (pc := 17) C dX8_fits_17 3 rfl ?_
    refine a_callV_I (pc := 18) (d' := 15) C dX8_fits_18 ml_X8_183 mc_X8_colours mv_X8_colours tm_0 rfl [.int x1, .int x2, .int x3] rfl (Nat.le_of_ble_eq_true rfl) (Nat.le_of_ble_eq_true rfl) rfl (Nat.le_of_ble_eq_true rfl) (fun r M' h => c_X8_colours N x1 x2 x3  _  r M' h) hf (fun v3 M4 hf => ?_)
    refine a_if_eq (pc := 21) 28 C dX8_fits_21 (by decide) hf (fun hf => ?_) (fun hf => ?_)
    · refine a_iconst (pc := 28) (v := 0) C dX8_fits_28 (by decide) ?_
      exact a_iret (pc := 29) C dX8_fits_29 (so_1 hf) (so_2 hf)
    · refine a_iconst (pc := 24) (v := 1) C dX8_fits_24 (by decide) ?_
      refine a_goto (pc := 25) 29 C dX8_fits_25 (by decide) ?_
      exact a_iret (pc := 29) C dX8_fits_29 (so_1 hf) (so_2 hf)
  · refine a_bipush (pc := 9) (v := (-2)) C dX8_fits_9 (by decide) ?_
    refine a_goto (pc := 11) 29 C dX8_fits_11 (by decide) ?_
    exact a_iret (pc := 29) C dX8_fits_29 (so_1 hf) (so_2 hf)
theorem dX8_place_0 : decode cX8_place 0 = .ok (.iload_n 1, 1) := by decide +kernel
theorem dX8_place_1 : decode cX8_place 1 = .ok (.iload_n 2, 1) := by decide +kernel
theorem dX8_place_2 : decode cX8_place 2 = .ok (.iload_n 3, 1) := by decide +kernel
theorem dX8_place_3 : decode cX8_place 3 = .ok (.invokestatic 180, 3) := by decide +kernel
theorem dX8_place_6 : decode cX8_place 6 = .ok (.ifCond .eq 12, 3) := by decide +kernel
theorem dX8_place_9 : decode cX8_place 9 = .ok (.aload_n 0, 1) := by decide +kernel
theorem dX8_place_10 : decode cX8_place 10 = .ok (.iload 4, 2) := by decide +kernel
theorem dX8_place_12 : decode cX8_place 12 = .ok (.invokevirtual 122, 3) := by decide +kernel
theorem dX8_place_15 : decode cX8_place 15 = .ok (.ifCond .ne 8, 3) := by decide +kernel
theorem dX8_place_18 : decode cX8_place 18 = .ok (.bipush (-2), 2) := by decide +kernel
theorem dX8_place_20 : decode cX8_place 20 = .ok (.goto 24, 3) := by decide +kernel
theorem dX8_place_23 : decode cX8_place 23 = .ok (.aload_n 0, 1) := by decide +kernel
theorem dX8_place_24 : decode cX8_place 24 = .ok (.iload_n 1, 1) := by decide +kernel
theorem dX8_place_25 : decode cX8_place 25 = .ok (.iload_n 2, 1) := by decide +kernel
theorem dX8_place_26 : decode cX8_place 26 = .ok (.iload_n 3, 1) := by decide +kernel
theorem dX8_place_27 : decode cX8_place 27 = .ok (.invokevirtual 183, 3) := by decide +kernel
theorem dX8_place_30 : decode cX8_place 30 = .ok (.ifCond .eq 13, 3) := by decide +kernel
theorem dX8_place_33 : decode cX8_place 33 = .ok (.aload_n 0, 1) := by decide +kernel
theorem dX8_place_34 : decode cX8_place 34 = .ok (.getfield 38, 3) := by decide +kernel
theorem dX8_place_37 : decode cX8_place 37 = .ok (.iload 4, 2) := by decide +kernel
theorem dX8_place_39 : decode cX8_place 39 = .ok (.iaload, 1) := by decide +kernel
theorem dX8_place_40 : decode cX8_place 40 = .ok (.goto 4, 3) := by decide +kernel
theorem dX8_place_43 : decode cX8_place 43 = .ok (.iconst (-1), 1) := by decide +kernel
theorem dX8_place_44 : decode cX8_place 44 = .ok (.ireturn, 1) := by decide +kernel
def f_X8_place (N : Nat) (x1 : Int32) (x2 : Int32) (x3 : Int32) (x4 : Int32) (M : Mem) : Option (Int32 × Mem) := bd (f_X8_areAsked N x1 x2 x3 M) (fun v1 => jn (fun (a18 : Unit) => some ((-2 : Int32), M)) (fun (k18 : Unit → Option (Int32 × Mem)) => if v1 = 0 then (k18 ()) else (bd (f_X8_isPoint N x4 M) (fun v3 => if v3 = 0 then (k18 ()) else (bd (f_X8_colours N x1 x2 x3 M) (fun w7 => if w7.1 = 0 then (some ((-1 : Int32), w7.2)) else (ck (inb x4 6) (some ((w7.2.1 7 x4.toNatClampNeg), w7.2)))))))))
set_option maxRecDepth 100000 in
set_option maxHeartbeats 4000000 in
theorem c_X8_place {l : Launch} {D : va_G} {ac : Nat → ClassId} {A : Nat → Prop} {ad : Nat → Nat} {rest : va_W} (N : Nat) (x1 : Int32) (x2 : Int32) (x3 : Int32) (x4 : Int32)  (M : Mem) (r0 : Int32) (M0 : Mem) (hf : f_X8_place N x1 x2 x3 x4 M = some (r0, M0)) : CtI l D ac A tabM ad rest yX8_place cX8_place 5 .int 16 [.ref (ad 0), .int x1, .int x2, .int x3, .int x4] M r0 M0 := by
  refine ct_ofI (own := RX8) (by decide +kernel) rfl (Nat.le_of_ble_eq_true rfl) ?_
  intro p e s m args below meth c C
  unfold f_X8_place at hf
  refine a_L (L' := [(0, .ref (ad 0)), (1, .int x1), (2, .int x2), (3, .int x3), (4, .int x4)]) rfl ?_
  refine a_iload_n (pc := 0) C dX8_place_0 1 rfl ?_
  refine a_iload_n (pc := 1) C dX8_place_1 2 rfl ?_
  refine a_iload_n (pc := 2) C dX8_place_2 3 rfl ?_
  refine a_callS_Ir (pc := 3) (d' := 2) C dX8_place_3 ml_X8_180 mc_X8_areAsked ms_X8_areAsked [.int x1, .int x2, .int x3] rfl (Nat.le_of_ble_eq_true rfl) (Nat.le_of_ble_eq_true rfl) rfl (Nat.le_of_ble_eq_true rfl) (fun r h => c_X8_areAsked N x1 x2 x3  _  r h) hf (fun v1 hf => ?_)
  refine a_jn 18 (fun a18 : Unit => []) (fun a18 : Unit => []) (fun a18 : Unit => M) hf (fun a18 hf => ?_) (fun k18 hk18 hf => ?_)
  · refine a_bipush (pc := 18) (v := (-2)) C dX8_place_18 (by decide) ?_
    refine a_goto (pc := 20) 44 C dX8_place_20 (by decide) ?_
    exact a_iret (pc := 44) C dX8_place_44 (so_1 hf) (so_2 hf)
  · refine a_if_eq (pc := 6) 18 C dX8_place_6 (by decide) hf (fun hf => ?_) (fun hf => ?_)
    · exact a_sub [] rfl (hk18 () hf)
    · refine a_aload_n (pc := 9) C dX8_place_9 0 rfl ?_
      refine a_iload (pc := 10) C dX8_place_10 4 rfl ?_
      refine a_callV_Ir (pc := 12) (d' := 2) C dX8_place_12 ml_X8_122 mc_X8_isPoint mv_X8_isPoint tm_0 rfl [.int x4] rfl (Nat.le_of_ble_eq_true rfl) (Nat.le_of_ble_eq_true rfl) rfl (Nat.le_of_ble_eq_true rfl) (fun r h => c_X8_isPoint N x4  _  r h) hf (fun v3 hf => ?_)
      refine a_if_ne (pc := 15) 23 C dX8_place_15 (by decide) hf (fun hf => ?_) (fun hf => ?_)
      · refine a_aload_n (pc := 23) C dX8_place_23 0 rfl ?_
        refine a_iload_n (pc := 24) C dX8_place_24 1 rfl ?_
        refine a_iload_n (pc := 25) C dX8_place_25 2 rfl ?_
        refine a_iload_n (pc := 26) C dX8_place_26 3 rfl ?_
        refine a_callV_I (pc := 27) (d' := 15) C dX8_place_27 ml_X8_183 mc_X8_colours mv_X8_colours tm_0 rfl [.int x1, .int x2, .int x3] rfl (Nat.le_of_ble_eq_true rfl) (Nat.le_of_ble_eq_true rfl) rfl (Nat.le_of_ble_eq_true rfl) (fun r M' h => c_X8_colours N x1 x2 x3  _  r M' h) hf (fun v5 M6 hf => ?_)
        refine a_if_eq (pc := 30) 43 C dX8_place_30 (by decide) hf (fun hf => ?_) (fun hf => ?_)
        · refine a_iconst (pc := 43) (v := (-1)) C dX8_place_43 (by decide) ?_
          exact a_iret (pc := 44) C dX8_place_44 (so_1 hf) (so_2 hf)
        · refine a_aload_n (pc := 33) C dX8_place_33 0 rfl ?_
          refine a_getR (pc := 34) C dX8_place_34 fl_X8_38 tm_0 rfl ?_
          refine a_iload (pc := 37) C dX8_place_37 4 rfl ?_
          refine a_iald (pc := 39) C dX8_place_39 tm_7 hf (fun hf => ?_)
          refine a_goto (pc := 40) 44 C dX8_place_40 (by decide) ?_
          exact a_iret (pc := 44) C dX8_place_44 (so_1 hf) (so_2 hf)
      · exact a_sub [] rfl (hk18 () hf)
theorem dX8_wholeOf_0 : decode cX8_wholeOf 0 = .ok (.iconst 1, 1) := by decide +kernel
theorem dX8_wholeOf_1 : decode cX8_wholeOf 1 = .ok (.istore_n 1, 1) := by decide +kernel
theorem dX8_wholeOf_2 : decode cX8_wholeOf 2 = .ok (.aload_n 0, 1) := by decide +kernel
theorem dX8_wholeOf_3 : decode cX8_wholeOf 3 = .ok (.iload_n 1, 1) := by decide +kernel
theorem dX8_wholeOf_4 : decode cX8_wholeOf 4 = .ok (.iconst 1, 1) := by decide +kernel
theorem dX8_wholeOf_5 : decode cX8_wholeOf 5 = .ok (.iconst 0, 1) := by decide +kernel
theorem dX8_wholeOf_6 : decode cX8_wholeOf 6 = .ok (.invokevirtual 183, 3) := by decide +kernel
theorem dX8_wholeOf_9 : decode cX8_wholeOf 9 = .ok (.ifCond .ne 9, 3) := by decide +kernel
theorem dX8_wholeOf_12 : decode cX8_wholeOf 12 = .ok (.iinc 1 1, 3) := by decide +kernel
theorem dX8_wholeOf_15 : decode cX8_wholeOf 15 = .ok (.goto (-13), 3) := by decide +kernel
theorem dX8_wholeOf_18 : decode cX8_wholeOf 18 = .ok (.iload_n 1, 1) := by decide +kernel
theorem dX8_wholeOf_19 : decode cX8_wholeOf 19 = .ok (.ireturn, 1) := by decide +kernel
def f_X8_wholeOf (N : Nat)  (M : Mem) : Option (Int32 × Mem) := lp (fun (k2 : (Int32 × Mem) → Option (Int32 × Mem)) (a2 : Int32 × Mem) => bd (f_X8_colours N a2.1 (1 : Int32) (0 : Int32) a2.2) (fun w3 => if w3.1 = 0 then (nm (a2.1 + (1 : Int32)) (fun v4 => k2 (v4, w3.2))) else (some (a2.1, w3.2)))) N ((1 : Int32), M)
set_option maxRecDepth 100000 in
set_option maxHeartbeats 4000000 in
theorem c_X8_wholeOf {l : Launch} {D : va_G} {ac : Nat → ClassId} {A : Nat → Prop} {ad : Nat → Nat} {rest : va_W} (N : Nat)   (M : Mem) (r0 : Int32) (M0 : Mem) (hf : f_X8_wholeOf N  M = some (r0, M0)) : CtI l D ac A tabM ad rest yX8_wholeOf cX8_wholeOf 2 .int 16 [.ref (ad 0)] M r0 M0 := by
  refine ct_ofI (own := RX8) (by decide +kernel) rfl (Nat.le_of_ble_eq_true rfl) ?_
  intro p e s m args below meth c C
  unfold f_X8_wholeOf at hf
  refine a_L (L' := [(0, .ref (ad 0))]) rfl ?_
  refine a_iconst (pc := 0) (v := 1) C dX8_wholeOf_0 (by decide) ?_
  refine a_istore_n (pc := 1) [(1, .int (1 : Int32)), (0, .ref (ad 0))] C dX8_wholeOf_1 (by decide) rfl ?_
  refine a_sub [1, 0] rfl ?_
  refine a_lp 2 (fun a2 : Int32 × Mem => [(0, .ref (ad 0)), (1, .int a2.1)]) (fun a2 : Int32 × Mem => []) (fun a2 : Int32 × Mem => a2.2) (fun k2 a2 hk2 hf => ?_) N ((1 : Int32), M) hf
  refine a_aload_n (pc := 2) C dX8_wholeOf_2 0 rfl ?_
  refine a_iload_n (pc := 3) C dX8_wholeOf_3 1 rfl ?_
  refine a_iconst (pc := 4) (v := 1) C dX8_wholeOf_4 (by decide) ?_
  refine a_iconst (pc := 5) (v := 0) C dX8_wholeOf_5 (by decide) ?_
  refine a_callV_I (pc := 6) (d' := 15) C dX8_wholeOf_6 ml_X8_183 mc_X8_colours mv_X8_colours tm_0 rfl [.int a2.1, .int (1 : Int32), .int (0 : Int32)] rfl (Nat.le_of_ble_eq_true rfl) (Nat.le_of_ble_eq_true rfl) rfl (Nat.le_of_ble_eq_true rfl) (fun r M' h => c_X8_colours N a2.1 (1 : Int32) (0 : Int32)  _  r M' h) hf (fun v1 M2 hf => ?_)
  refine a_if_ne (pc := 9) 18 C dX8_wholeOf_9 (by decide) hf (fun hf => ?_) (fun hf => ?_)
  · refine a_iload_n (pc := 18) C dX8_wholeOf_18 1 rfl ?_
    exact a_iret (pc := 19) C dX8_wholeOf_19 (so_1 hf) (so_2 hf)
  · refine a_iinc (pc := 12) (v := 1) (fun v4 => [(1, .int v4), (0, .ref (ad 0))]) C dX8_wholeOf_12 1 rfl (by decide) (by decide) (fun _ => rfl) hf (fun v4 hf => ?_)
    refine a_goto (pc := 15) 2 C dX8_wholeOf_15 (by decide) ?_
    exact a_sub [1, 0] rfl (hk2 (v4, M2) hf)
theorem dX8_paint_0 : decode cX8_paint 0 = .ok (.iload_n 1, 1) := by decide +kernel
theorem dX8_paint_1 : decode cX8_paint 1 = .ok (.invokestatic 245, 3) := by decide +kernel
theorem dX8_paint_4 : decode cX8_paint 4 = .ok (.ifCond .eq 13, 3) := by decide +kernel
theorem dX8_paint_7 : decode cX8_paint 7 = .ok (.iload_n 2, 1) := by decide +kernel
theorem dX8_paint_8 : decode cX8_paint 8 = .ok (.iload_n 3, 1) := by decide +kernel
theorem dX8_paint_9 : decode cX8_paint 9 = .ok (.iload 4, 2) := by decide +kernel
theorem dX8_paint_11 : decode cX8_paint 11 = .ok (.invokestatic 180, 3) := by decide +kernel
theorem dX8_paint_14 : decode cX8_paint 14 = .ok (.ifCond .ne 6, 3) := by decide +kernel
theorem dX8_paint_17 : decode cX8_paint 17 = .ok (.bipush (-2), 2) := by decide +kernel
theorem dX8_paint_19 : decode cX8_paint 19 = .ok (.ireturn, 1) := by decide +kernel
theorem dX8_paint_20 : decode cX8_paint 20 = .ok (.aload_n 0, 1) := by decide +kernel
theorem dX8_paint_21 : decode cX8_paint 21 = .ok (.iload_n 2, 1) := by decide +kernel
theorem dX8_paint_22 : decode cX8_paint 22 = .ok (.iload_n 3, 1) := by decide +kernel
theorem dX8_paint_23 : decode cX8_paint 23 = .ok (.iload 4, 2) := by decide +kernel
theorem dX8_paint_25 : decode cX8_paint 25 = .ok (.invokevirtual 183, 3) := by decide +kernel
theorem dX8_paint_28 : decode cX8_paint 28 = .ok (.ifCond .ne 5, 3) := by decide +kernel
theorem dX8_paint_31 : decode cX8_paint 31 = .ok (.iconst (-1), 1) := by decide +kernel
theorem dX8_paint_32 : decode cX8_paint 32 = .ok (.ireturn, 1) := by decide +kernel
theorem dX8_paint_33 : decode cX8_paint 33 = .ok (.aload_n 0, 1) := by decide +kernel
theorem dX8_paint_34 : decode cX8_paint 34 = .ok (.iload_n 1, 1) := by decide +kernel
theorem dX8_paint_35 : decode cX8_paint 35 = .ok (.iconst 1, 1) := by decide +kernel
theorem dX8_paint_36 : decode cX8_paint 36 = .ok (.invokevirtual 261, 3) := by decide +kernel
theorem dX8_paint_39 : decode cX8_paint 39 = .ok (.aload_n 0, 1) := by decide +kernel
theorem dX8_paint_40 : decode cX8_paint 40 = .ok (.getfield 95, 3) := by decide +kernel
theorem dX8_paint_43 : decode cX8_paint 43 = .ok (.ireturn, 1) := by decide +kernel
def f_X8_paint (N : Nat) (x1 : Int32) (x2 : Int32) (x3 : Int32) (x4 : Int32) (M : Mem) : Option (Int32 × Mem) := bd (f_X8_isSheet N x1 M) (fun v1 => if v1 = 0 then (some ((-2 : Int32), M)) else (bd (f_X8_areAsked N x2 x3 x4 M) (fun v3 => if v3 = 0 then (some ((-2 : Int32), M)) else (bd (f_X8_colours N x2 x3 x4 M) (fun w7 => if w7.1 = 0 then (some ((-1 : Int32), w7.2)) else (bd (f_X8_lays N x1 (1 : Int32) w7.2) (fun M9 => some ((M9.1 0 0), M9))))))))
set_option maxRecDepth 100000 in
set_option maxHeartbeats 4000000 in
theorem c_X8_paint {l : Launch} {D : va_G} {ac : Nat → ClassId} {A : Nat → Prop} {ad : Nat → Nat} {rest : va_W} (N : Nat) (x1 : Int32) (x2 : Int32) (x3 : Int32) (x4 : Int32)  (M : Mem) (r0 : Int32) (M0 : Mem) (hf : f_X8_paint N x1 x2 x3 x4 M = some (r0, M0)) : CtI l D ac A tabM ad rest yX8_paint cX8_paint 5 .int 16 [.ref (ad 0), .int x1, .int x2, .int x3, .int x4] M r0 M0 := by
  refine ct_ofI (own := RX8) (by decide +kernel) rfl (Nat.le_of_ble_eq_true rfl) ?_
  intro p e s m args below meth c C
  unfold f_X8_paint at hf
  refine a_L (L' := [(0, .ref (ad 0)), (1, .int x1), (2, .int x2), (3, .int x3), (4, .int x4)]) rfl ?_
  refine a_iload_n (pc := 0) C dX8_paint_0 1 rfl ?_
  refine a_callS_Ir (pc := 1) (d' := 2) C dX8_paint_1 ml_X8_245 mc_X8_isSheet ms_X8_isSheet [.int x1] rfl (Nat.le_of_ble_eq_true rfl) (Nat.le_of_ble_eq_true rfl) rfl (Nat.le_of_ble_eq_true rfl) (fun r h => c_X8_isSheet N x1  _  r h) hf (fun v1 hf => ?_)
  refine a_if_eq (pc := 4) 17 C dX8_paint_4 (by decide) hf (fun hf => ?_) (fun hf => ?_)
  · refine a_bipush (pc := 17) (v := (-2)) C dX8_paint_17 (by decide) ?_
    exact a_iret (pc := 19) C dX8_paint_19 (so_1 hf) (so_2 hf)
  · refine a_iload_n (pc := 7) C dX8_paint_7 2 rfl ?_
    refine a_iload_n (pc := 8) C dX8_paint_8 3 rfl ?_
    refine a_iload (pc := 9) C dX8_paint_9 4 rfl ?_
    refine a_callS_Ir (pc := 11) (d' := 2) C dX8_paint_11 ml_X8_180 mc_X8_areAsked ms_X8_areAsked [.int x2, .int x3, .int x4] rfl (Nat.le_of_ble_eq_true rfl) (Nat.le_of_ble_eq_true rfl) rfl (Nat.le_of_ble_eq_true rfl) (fun r h => c_X8_areAsked N x2 x3 x4  _  r h) hf (fun v3 hf => ?_)
    refine a_if_ne (pc := 14) 20 C dX8_paint_14 (by decide) hf (fun hf => ?_) (fun hf => ?_)
    · refine a_aload_n (pc := 20) C dX8_paint_20 0 rfl ?_
      refine a_iload_n (pc := 21) C dX8_paint_21 2 rfl ?_
      refine a_iload_n (pc := 22) C dX8_paint_22 3 rfl ?_
      refine a_iload (pc := 23) C dX8_paint_23 4 rfl ?_
      refine a_callV_I (pc := 25) (d' := 15) C dX8_paint_25 ml_X8_183 mc_X8_colours mv_X8_colours tm_0 rfl [.int x2, .int x3, .int x4] rfl (Nat.le_of_ble_eq_true rfl) (Nat.le_of_ble_eq_true rfl) rfl (Nat.le_of_ble_eq_true rfl) (fun r M' h => c_X8_colours N x2 x3 x4  _  r M' h) hf (fun v5 M6 hf => ?_)
      refine a_if_ne (pc := 28) 33 C dX8_paint_28 (by decide) hf (fun hf => ?_) (fun hf => ?_)
      · refine a_aload_n (pc := 33) C dX8_paint_33 0 rfl ?_
        refine a_iload_n (pc := 34) C dX8_paint_34 1 rfl ?_
        refine a_iconst (pc := 35) (v := 1) C dX8_paint_35 (by decide) ?_
        refine a_callV_V (pc := 36) (d' := 1) C dX8_paint_36 ml_X8_261 mc_X8_lays mv_X8_lays tm_0 rfl [.int x1, .int (1 : Int32)] rfl (Nat.le_of_ble_eq_true rfl) (Nat.le_of_ble_eq_true rfl) rfl (Nat.le_of_ble_eq_true rfl) (fun M' h => c_X8_lays N x1 (1 : Int32)  _  M' h) hf (fun M9 hf => ?_)
        refine a_aload_n (pc := 39) C dX8_paint_39 0 rfl ?_
        refine a_getI (pc := 40) C dX8_paint_40 fl_X8_95 tm_0 rfl ?_
        exact a_iret (pc := 43) C dX8_paint_43 (so_1 hf) (so_2 hf)
      · refine a_iconst (pc := 31) (v := (-1)) C dX8_paint_31 (by decide) ?_
        exact a_iret (pc := 32) C dX8_paint_32 (so_1 hf) (so_2 hf)
    · refine a_bipush (pc := 17) (v := (-2)) C dX8_paint_17 (by decide) ?_
      exact a_iret (pc := 19) C dX8_paint_19 (so_1 hf) (so_2 hf)
theorem dX8_whole_0 : decode cX8_whole 0 = .ok (.aload_n 0, 1) := by decide +kernel
theorem dX8_whole_1 : decode cX8_whole 1 = .ok (.getfield 95, 3) := by decide +kernel
theorem dX8_whole_4 : decode cX8_whole 4 = .ok (.ifCond .ne 7, 3) := by decide +kernel
theorem dX8_whole_7 : decode cX8_whole 7 = .ok (.iconst (-1), 1) := by decide +kernel
theorem dX8_whole_8 : decode cX8_whole 8 = .ok (.goto 7, 3) := by decide +kernel
theorem dX8_whole_11 : decode cX8_whole 11 = .ok (.aload_n 0, 1) := by decide +kernel
theorem dX8_whole_12 : decode cX8_whole 12 = .ok (.invokevirtual 233, 3) := by decide +kernel
theorem dX8_whole_15 : decode cX8_whole 15 = .ok (.ireturn, 1) := by decide +kernel
def f_X8_whole (N : Nat)  (M : Mem) : Option (Int32 × Mem) := if (M.1 0 0) = 0 then (some ((-1 : Int32), M)) else (bd (f_X8_wholeOf N  M) (fun w3 => some (w3.1, w3.2)))
set_option maxRecDepth 100000 in
set_option maxHeartbeats 4000000 in
theorem c_X8_whole {l : Launch} {D : va_G} {ac : Nat → ClassId} {A : Nat → Prop} {ad : Nat → Nat} {rest : va_W} (N : Nat)   (M : Mem) (r0 : Int32) (M0 : Mem) (hf : f_X8_whole N  M = some (r0, M0)) : CtI l D ac A tabM ad rest yX8_whole cX8_whole 1 .int 17 [.ref (ad 0)] M r0 M0 := by
  refine ct_ofI (own := RX8) (by decide +kernel) rfl (Nat.le_of_ble_eq_true rfl) ?_
  intro p e s m args below meth c C
  unfold f_X8_whole at hf
  refine a_L (L' := [(0, .ref (ad 0))]) rfl ?_
  refine a_aload_n (pc := 0) C dX8_whole_0 0 rfl ?_
  refine a_getI (pc := 1) C dX8_whole_1 fl_X8_95 tm_0 rfl ?_
  refine a_if_ne (pc := 4) 11 C dX8_whole_4 (by decide) hf (fun hf => ?_) (fun hf => ?_)
  · refine a_aload_n (pc := 11) C dX8_whole_11 0 rfl ?_
    refine a_callV_I (pc := 12) (d' := 16) C dX8_whole_12 ml_X8_233 mc_X8_wholeOf mv_X8_wholeOf tm_0 rfl [] rfl (Nat.le_of_ble_eq_true rfl) (Nat.le_of_ble_eq_true rfl) rfl (Nat.le_of_ble_eq_true rfl) (fun r M' h => c_X8_wholeOf N   _  r M' h) hf (fun v1 M2 hf => ?_)
    exact a_iret (pc := 15) C dX8_whole_15 (so_1 hf) (so_2 hf)
  · refine a_iconst (pc := 7) (v := (-1)) C dX8_whole_7 (by decide) ?_
    refine a_goto (pc := 8) 15 C dX8_whole_8 (by decide) ?_
    exact a_iret (pc := 15) C dX8_whole_15 (so_1 hf) (so_2 hf)
theorem dX8_off_0 : decode cX8_off 0 = .ok (.iload_n 1, 1) := by decide +kernel
theorem dX8_off_1 : decode cX8_off 1 = .ok (.i2l, 1) := by decide +kernel
theorem dX8_off_2 : decode cX8_off 2 = .ok (.lconst 0, 1) := by decide +kernel
theorem dX8_off_3 : decode cX8_off 3 = .ok (.lconst 1, 1) := by decide +kernel
theorem dX8_off_4 : decode cX8_off 4 = .ok (.invokestatic 98, 3) := by decide +kernel
theorem dX8_off_7 : decode cX8_off 7 = .ok (.ifCond .ne 6, 3) := by decide +kernel
theorem dX8_off_10 : decode cX8_off 10 = .ok (.bipush (-2), 2) := by decide +kernel
theorem dX8_off_12 : decode cX8_off 12 = .ok (.ireturn, 1) := by decide +kernel
theorem dX8_off_13 : decode cX8_off 13 = .ok (.aload_n 0, 1) := by decide +kernel
theorem dX8_off_14 : decode cX8_off 14 = .ok (.getfield 102, 3) := by decide +kernel
theorem dX8_off_17 : decode cX8_off 17 = .ok (.ifCond .ne 5, 3) := by decide +kernel
theorem dX8_off_20 : decode cX8_off 20 = .ok (.iconst (-1), 1) := by decide +kernel
theorem dX8_off_21 : decode cX8_off 21 = .ok (.ireturn, 1) := by decide +kernel
theorem dX8_off_22 : decode cX8_off 22 = .ok (.aload_n 0, 1) := by decide +kernel
theorem dX8_off_23 : decode cX8_off 23 = .ok (.invokevirtual 227, 3) := by decide +kernel
theorem dX8_off_26 : decode cX8_off 26 = .ok (.aload_n 0, 1) := by decide +kernel
theorem dX8_off_27 : decode cX8_off 27 = .ok (.iconst 1, 1) := by decide +kernel
theorem dX8_off_28 : decode cX8_off 28 = .ok (.aload_n 0, 1) := by decide +kernel
theorem dX8_off_29 : decode cX8_off 29 = .ok (.getfield 102, 3) := by decide +kernel
theorem dX8_off_32 : decode cX8_off 32 = .ok (.ishl, 1) := by decide +kernel
theorem dX8_off_33 : decode cX8_off 33 = .ok (.iconst 1, 1) := by decide +kernel
theorem dX8_off_34 : decode cX8_off 34 = .ok (.isub, 1) := by decide +kernel
theorem dX8_off_35 : decode cX8_off 35 = .ok (.invokevirtual 230, 3) := by decide +kernel
theorem dX8_off_38 : decode cX8_off 38 = .ok (.aload_n 0, 1) := by decide +kernel
theorem dX8_off_39 : decode cX8_off 39 = .ok (.invokevirtual 233, 3) := by decide +kernel
theorem dX8_off_42 : decode cX8_off 42 = .ok (.aload_n 0, 1) := by decide +kernel
theorem dX8_off_43 : decode cX8_off 43 = .ok (.getfield 218, 3) := by decide +kernel
theorem dX8_off_46 : decode cX8_off 46 = .ok (.imul, 1) := by decide +kernel
theorem dX8_off_47 : decode cX8_off 47 = .ok (.aload_n 0, 1) := by decide +kernel
theorem dX8_off_48 : decode cX8_off 48 = .ok (.getfield 215, 3) := by decide +kernel
theorem dX8_off_51 : decode cX8_off 51 = .ok (.isub, 1) := by decide +kernel
theorem dX8_off_52 : decode cX8_off 52 = .ok (.istore_n 2, 1) := by decide +kernel
theorem dX8_off_53 : decode cX8_off 53 = .ok (.iload_n 2, 1) := by decide +kernel
theorem dX8_off_54 : decode cX8_off 54 = .ok (.aload_n 0, 1) := by decide +kernel
theorem dX8_off_55 : decode cX8_off 55 = .ok (.getfield 218, 3) := by decide +kernel
theorem dX8_off_58 : decode cX8_off 58 = .ok (.invokestatic 224, 3) := by decide +kernel
theorem dX8_off_61 : decode cX8_off 61 = .ok (.istore_n 3, 1) := by decide +kernel
theorem dX8_off_62 : decode cX8_off 62 = .ok (.iload_n 1, 1) := by decide +kernel
theorem dX8_off_63 : decode cX8_off 63 = .ok (.ifCond .ne 7, 3) := by decide +kernel
theorem dX8_off_66 : decode cX8_off 66 = .ok (.iload_n 2, 1) := by decide +kernel
theorem dX8_off_67 : decode cX8_off 67 = .ok (.goto 7, 3) := by decide +kernel
theorem dX8_off_70 : decode cX8_off 70 = .ok (.aload_n 0, 1) := by decide +kernel
theorem dX8_off_71 : decode cX8_off 71 = .ok (.getfield 218, 3) := by decide +kernel
theorem dX8_off_74 : decode cX8_off 74 = .ok (.iload_n 3, 1) := by decide +kernel
theorem dX8_off_75 : decode cX8_off 75 = .ok (.idiv, 1) := by decide +kernel
theorem dX8_off_76 : decode cX8_off 76 = .ok (.ireturn, 1) := by decide +kernel
def f_X8_off (N : Nat) (x1 : Int32) (M : Mem) : Option (Int32 × Mem) := bd (f_X8_in N x1.toInt64 (0 : Int64) (1 : Int64) M) (fun v1 => if v1 = 0 then (some ((-2 : Int32), M)) else (if (M.1 0 1) = 0 then (some ((-1 : Int32), M)) else (bd (f_X8_laysRings N  M) (fun M4 => bd (f_X8_ratios N (((1 : Int32) <<< ((M4.1 0 1) &&& 31)) - (1 : Int32)) M4) (fun M6 => bd (f_X8_wholeOf N  M6) (fun w9 => nm ((w9.1 * (w9.2.1 0 21)) - (w9.2.1 0 20)) (fun v10 => bd (f_X8_common N v10 (w9.2.1 0 21) w9.2) (fun v11 => jn (fun (a74 : Int32) => ck (¬ v11 = 0) (some ((a74 / v11), w9.2))) (fun (k74 : Int32 → Option (Int32 × Mem)) => if x1 = 0 then (k74 v10) else (k74 (w9.2.1 0 21)))))))))))
set_option maxRecDepth 100000 in
set_option maxHeartbeats 4000000 in
theorem c_X8_off {l : Launch} {D : va_G} {ac : Nat → ClassId} {A : Nat → Prop} {ad : Nat → Nat} {rest : va_W} (N : Nat) (x1 : Int32)  (M : Mem) (r0 : Int32) (M0 : Mem) (hf : f_X8_off N x1 M = some (r0, M0)) : CtI l D ac A tabM ad rest yX8_off cX8_off 4 .int 17 [.ref (ad 0), .int x1] M r0 M0 := by
  refine ct_ofI (own := RX8) (by decide +kernel) rfl (Nat.le_of_ble_eq_true rfl) ?_
  intro p e s m args below meth c C
  unfold f_X8_off at hf
  refine a_L (L' := [(0, .ref (ad 0)), (1, .int x1)]) rfl ?_
  refine a_iload_n (pc := 0) C dX8_off_0 1 rfl ?_
  refine a_i2l (pc := 1) C dX8_off_1 ?_
  refine a_lconst (pc := 2) (v := 0) C dX8_off_2 (by decide) ?_
  refine a_lconst (pc := 3) (v := 1) C dX8_off_3 (by decide) ?_
  refine a_callS_Ir (pc := 4) (d' := 1) C dX8_off_4 ml_X8_98 mc_X8_in ms_X8_in [.long x1.toInt64, .long (0 : Int64), .long (1 : Int64)] rfl (Nat.le_of_ble_eq_true rfl) (Nat.le_of_ble_eq_true rfl) rfl (Nat.le_of_ble_eq_true rfl) (fun r h => c_X8_in N x1.toInt64 (0 : Int64) (1 : Int64)  _  r h) hf (fun v1 hf => ?_)
  refine a_if_ne (pc := 7) 13 C dX8_off_7 (by decide) hf (fun hf => ?_) (fun hf => ?_)
  · refine a_aload_n (pc := 13) C dX8_off_13 0 rfl ?_
    refine a_getI (pc := 14) C dX8_off_14 fl_X8_102 tm_0 rfl ?_
    refine a_if_ne (pc := 17) 22 C dX8_off_17 (by decide) hf (fun hf => ?_) (fun hf => ?_)
    · refine a_aload_n (pc := 22) C dX8_off_22 0 rfl ?_
      refine a_callV_V (pc := 23) (d' := 3) C dX8_off_23 ml_X8_227 mc_X8_laysRings mv_X8_laysRings tm_0 rfl [] rfl (Nat.le_of_ble_eq_true rfl) (Nat.le_of_ble_eq_true rfl) rfl (Nat.le_of_ble_eq_true rfl) (fun M' h => c_X8_laysRings N   _  M' h) hf (fun M4 hf => ?_)
      refine a_aload_n (pc := 26) C dX8_off_26 0 rfl ?_
      refine a_iconst (pc := 27) (v := 1) C dX8_off_27 (by decide) ?_
      refine a_aload_n (pc := 28) C dX8_off_28 0 rfl ?_
      refine a_getI (pc := 29) C dX8_off_29 fl_X8_102 tm_0 rfl ?_
      refine a_ishl (pc := 32) C dX8_off_32 ?_
      refine a_iconst (pc := 33) (v := 1) C dX8_off_33 (by decide) ?_
      refine a_isub (pc := 34) C dX8_off_34 ?_
      refine a_callV_V (pc := 35) (d' := 5) C dX8_off_35 ml_X8_230 mc_X8_ratios mv_X8_ratios tm_0 rfl [.int (((1 : Int32) <<< ((M4.1 0 1) &&& 31)) - (1 : Int32))] rfl (Nat.le_of_ble_eq_true rfl) (Nat.le_of_ble_eq_true rfl) rfl (Nat.le_of_ble_eq_true rfl) (fun M' h => c_X8_ratios N (((1 : Int32) <<< ((M4.1 0 1) &&& 31)) - (1 : Int32))  _  M' h) hf (fun M6 hf => ?_)
      refine a_aload_n (pc := 38) C dX8_off_38 0 rfl ?_
      refine a_callV_I (pc := 39) (d' := 16) C dX8_off_39 ml_X8_233 mc_X8_wholeOf mv_X8_wholeOf tm_0 rfl [] rfl (Nat.le_of_ble_eq_true rfl) (Nat.le_of_ble_eq_true rfl) rfl (Nat.le_of_ble_eq_true rfl) (fun r M' h => c_X8_wholeOf N   _  r M' h) hf (fun v7 M8 hf => ?_)
      refine a_aload_n (pc := 42) C dX8_off_42 0 rfl ?_
      refine a_getI (pc := 43) C dX8_off_43 fl_X8_218 tm_0 rfl ?_
      refine a_imul (pc := 46) C dX8_off_46 ?_
      refine a_aload_n (pc := 47) C dX8_off_47 0 rfl ?_
      refine a_getI (pc := 48) C dX8_off_48 fl_X8_215 tm_0 rfl ?_
      refine a_isub (pc := 51) C dX8_off_51 ?_
      refine a_nmi hf (fun v10 hf => ?_)
      refine a_istore_n (pc := 52) [(2, .int v10), (0, .ref (ad 0)), (1, .int x1)] C dX8_off_52 (by decide) rfl ?_
      refine a_iload_n (pc := 53) C dX8_off_53 0 rfl ?_
      refine a_aload_n (pc := 54) C dX8_off_54 1 rfl ?_
      refine a_getI (pc := 55) C dX8_off_55 fl_X8_218 tm_0 rfl ?_
      refine a_callS_Ir (pc := 58) (d' := 1) C dX8_off_58 ml_X8_224 mc_X8_common ms_X8_common [.int v10, .int (M8.1 0 21)] rfl (Nat.le_of_ble_eq_true rfl) (Nat.le_of_ble_eq_true rfl) rfl (Nat.le_of_ble_eq_true rfl) (fun r h => c_X8_common N v10 (M8.1 0 21)  _  r h) hf (fun v11 hf => ?_)
      refine a_istore_n (pc := 61) [(3, .int v11), (2, .int v10), (0, .ref (ad 0)), (1, .int x1)] C dX8_off_61 (by decide) rfl ?_
      refine a_iload_n (pc := 62) C dX8_off_62 3 rfl ?_
      refine a_jn 74 (fun a74 : Int32 => [(3, .int v11)]) (fun a74 : Int32 => [.int a74]) (fun a74 : Int32 => M8) hf (fun a74 hf => ?_) (fun k74 hk74 hf => ?_)
      · refine a_iload_n (pc := 74) C dX8_off_74 0 rfl ?_
        refine a_idiv (pc := 75) C dX8_off_75 hf (fun hf => ?_)
        exact a_iret (pc := 76) C dX8_off_76 (so_1 hf) (so_2 hf)
      · refine a_if_ne (pc := 63) 70 C dX8_off_63 (by decide) hf (fun hf => ?_) (fun hf => ?_)
        · refine a_aload_n (pc := 70) C dX8_off_70 2 rfl ?_
          refine a_getI (pc := 71) C dX8_off_71 fl_X8_218 tm_0 rfl ?_
          exact a_sub [0] rfl (hk74 (M8.1 0 21) hf)
        · refine a_iload_n (pc := 66) C dX8_off_66 1 rfl ?_
          refine a_goto (pc := 67) 74 C dX8_off_67 (by decide) ?_
          exact a_sub [0] rfl (hk74 v10 hf)
    · refine a_iconst (pc := 20) (v := (-1)) C dX8_off_20 (by decide) ?_
      exact a_iret (pc := 21) C dX8_off_21 (so_1 hf) (so_2 hf)
  · refine a_bipush (pc := 10) (v := (-2)) C dX8_off_10 (by decide) ?_
    exact a_iret (pc := 12) C dX8_off_12 (so_1 hf) (so_2 hf)
