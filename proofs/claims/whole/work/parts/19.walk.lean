theorem dX4_countBest_0 : decode cX4_countBest 0 = .ok (.iconst 0, 1) := by decide +kernel
theorem dX4_countBest_1 : decode cX4_countBest 1 = .ok (.istore_n 1, 1) := by decide +kernel
theorem dX4_countBest_2 : decode cX4_countBest 2 = .ok (.iconst 0, 1) := by decide +kernel
theorem dX4_countBest_3 : decode cX4_countBest 3 = .ok (.istore_n 2, 1) := by decide +kernel
theorem dX4_countBest_4 : decode cX4_countBest 4 = .ok (.iload_n 2, 1) := by decide +kernel
theorem dX4_countBest_5 : decode cX4_countBest 5 = .ok (.aload_n 0, 1) := by decide +kernel
theorem dX4_countBest_6 : decode cX4_countBest 6 = .ok (.getfield 46, 3) := by decide +kernel
theorem dX4_countBest_9 : decode cX4_countBest 9 = .ok (.if_icmp .ge 28, 3) := by decide +kernel
theorem dX4_countBest_12 : decode cX4_countBest 12 = .ok (.aload_n 0, 1) := by decide +kernel
theorem dX4_countBest_13 : decode cX4_countBest 13 = .ok (.iload_n 2, 1) := by decide +kernel
theorem dX4_countBest_14 : decode cX4_countBest 14 = .ok (.aload_n 0, 1) := by decide +kernel
theorem dX4_countBest_15 : decode cX4_countBest 15 = .ok (.getfield 97, 3) := by decide +kernel
theorem dX4_countBest_18 : decode cX4_countBest 18 = .ok (.aload_n 0, 1) := by decide +kernel
theorem dX4_countBest_19 : decode cX4_countBest 19 = .ok (.getfield 100, 3) := by decide +kernel
theorem dX4_countBest_22 : decode cX4_countBest 22 = .ok (.invokevirtual 110, 3) := by decide +kernel
theorem dX4_countBest_25 : decode cX4_countBest 25 = .ok (.ifCond .eq 6, 3) := by decide +kernel
theorem dX4_countBest_28 : decode cX4_countBest 28 = .ok (.iinc 1 1, 3) := by decide +kernel
theorem dX4_countBest_31 : decode cX4_countBest 31 = .ok (.iinc 2 1, 3) := by decide +kernel
theorem dX4_countBest_34 : decode cX4_countBest 34 = .ok (.goto (-30), 3) := by decide +kernel
theorem dX4_countBest_37 : decode cX4_countBest 37 = .ok (.iload_n 1, 1) := by decide +kernel
theorem dX4_countBest_38 : decode cX4_countBest 38 = .ok (.ireturn, 1) := by decide +kernel
def f_X4_countBest (N : Nat)  (M : Mem) : Option (Int32) := lp (fun (k4 : (Int32 × Int32) → Option (Int32)) (a4 : Int32 × Int32) => if (M.1 19 7) ≤ a4.2 then (some a4.1) else (bd (f_X4_allows N a4.2 (M.1 19 3) (M.1 19 4) M) (fun v1 => jn (fun (a31 : Int32) => nm (a4.2 + (1 : Int32)) (fun v3 => k4 (a31, v3))) (fun (k31 : Int32 → Option (Int32)) => if v1 = 0 then (k31 a4.1) else (nm (a4.1 + (1 : Int32)) (fun v4 => k31 v4)))))) N ((0 : Int32), (0 : Int32))
set_option maxRecDepth 100000 in
set_option maxHeartbeats 4000000 in
theorem c_X4_countBest {l : Launch} {D : va_G} {ac : Nat → ClassId} {A : Nat → Prop} {ad : Nat → Nat} {rest : va_W} (N : Nat)   (M : Mem) (r0 : Int32) (hf : f_X4_countBest N  M = some r0) : CtI l D ac A tabX ad rest yX4_countBest cX4_countBest 3 .int 4 [.ref (ad 19)] M r0 M := by
  refine ct_ofI (own := RX4) (by decide +kernel) rfl (Nat.le_of_ble_eq_true rfl) ?_
  intro p e s m args below meth c C
  unfold f_X4_countBest at hf
  refine a_L (L' := [(0, .ref (ad 19))]) rfl ?_
  refine a_iconst (pc := 0) (v := 0) C dX4_countBest_0 (by decide) ?_
  refine a_istore_n (pc := 1) [(1, .int (0 : Int32)), (0, .ref (ad 19))] C dX4_countBest_1 (by decide) rfl ?_
  refine a_iconst (pc := 2) (v := 0) C dX4_countBest_2 (by decide) ?_
  refine a_istore_n (pc := 3) [(2, .int (0 : Int32)), (1, .int (0 : Int32)), (0, .ref (ad 19))] C dX4_countBest_3 (by decide) rfl ?_
  refine a_sub [2, 1, 0] rfl ?_
  refine a_lp 4 (fun a4 : Int32 × Int32 => [(0, .ref (ad 19)), (1, .int a4.1), (2, .int a4.2)]) (fun a4 : Int32 × Int32 => []) (fun a4 : Int32 × Int32 => M) (fun k4 a4 hk4 hf => ?_) N ((0 : Int32), (0 : Int32)) hf
  refine a_iload_n (pc := 4) C dX4_countBest_4 2 rfl ?_
  refine a_aload_n (pc := 5) C dX4_countBest_5 0 rfl ?_
  refine a_getI (pc := 6) C dX4_countBest_6 fl_X4_46 tx_19 rfl ?_
  refine a_icmp_ge (pc := 9) 37 C dX4_countBest_9 (by decide) hf (fun hf => ?_) (fun hf => ?_)
  · refine a_iload_n (pc := 37) C dX4_countBest_37 1 rfl ?_
    exact a_iret (pc := 38) C dX4_countBest_38 (Option.some.inj hf) rfl
  · refine a_aload_n (pc := 12) C dX4_countBest_12 0 rfl ?_
    refine a_iload_n (pc := 13) C dX4_countBest_13 2 rfl ?_
    refine a_aload_n (pc := 14) C dX4_countBest_14 0 rfl ?_
    refine a_getI (pc := 15) C dX4_countBest_15 fl_X4_97 tx_19 rfl ?_
    refine a_aload_n (pc := 18) C dX4_countBest_18 0 rfl ?_
    refine a_getI (pc := 19) C dX4_countBest_19 fl_X4_100 tx_19 rfl ?_
    refine a_callV_Ir (pc := 22) (d' := 3) C dX4_countBest_22 ml_X4_110 mc_X4_allows mv_X4_allows tx_19 rfl [.int a4.2, .int (M.1 19 3), .int (M.1 19 4)] rfl (Nat.le_of_ble_eq_true rfl) (Nat.le_of_ble_eq_true rfl) rfl (Nat.le_of_ble_eq_true rfl) (fun r h => c_X4_allows N a4.2 (M.1 19 3) (M.1 19 4)  _  r h) hf (fun v1 hf => ?_)
    refine a_jn 31 (fun a31 : Int32 => [(0, .ref (ad 19)), (1, .int a31), (2, .int a4.2)]) (fun a31 : Int32 => []) (fun a31 : Int32 => M) hf (fun a31 hf => ?_) (fun k31 hk31 hf => ?_)
    · refine a_iinc (pc := 31) (v := 1) (fun v3 => [(2, .int v3), (0, .ref (ad 19)), (1, .int a31)]) C dX4_countBest_31 2 rfl (by decide) (by decide) (fun _ => rfl) hf (fun v3 hf => ?_)
      refine a_goto (pc := 34) 4 C dX4_countBest_34 (by decide) ?_
      exact a_sub [1, 2, 0] rfl (hk4 (a31, v3) hf)
    · refine a_if_eq (pc := 25) 31 C dX4_countBest_25 (by decide) hf (fun hf => ?_) (fun hf => ?_)
      · exact a_sub [0, 1, 2] rfl (hk31 a4.1 hf)
      · refine a_iinc (pc := 28) (v := 1) (fun v4 => [(1, .int v4), (0, .ref (ad 19)), (2, .int a4.2)]) C dX4_countBest_28 1 rfl (by decide) (by decide) (fun _ => rfl) hf (fun v4 hf => ?_)
        exact a_sub [1, 0, 2] rfl (hk31 v4 hf)
theorem dX4_leastBest_0 : decode cX4_leastBest 0 = .ok (.iconst 0, 1) := by decide +kernel
theorem dX4_leastBest_1 : decode cX4_leastBest 1 = .ok (.istore_n 1, 1) := by decide +kernel
theorem dX4_leastBest_2 : decode cX4_leastBest 2 = .ok (.iload_n 1, 1) := by decide +kernel
theorem dX4_leastBest_3 : decode cX4_leastBest 3 = .ok (.aload_n 0, 1) := by decide +kernel
theorem dX4_leastBest_4 : decode cX4_leastBest 4 = .ok (.getfield 46, 3) := by decide +kernel
theorem dX4_leastBest_7 : decode cX4_leastBest 7 = .ok (.if_icmp .ge 27, 3) := by decide +kernel
theorem dX4_leastBest_10 : decode cX4_leastBest 10 = .ok (.aload_n 0, 1) := by decide +kernel
theorem dX4_leastBest_11 : decode cX4_leastBest 11 = .ok (.iload_n 1, 1) := by decide +kernel
theorem dX4_leastBest_12 : decode cX4_leastBest 12 = .ok (.aload_n 0, 1) := by decide +kernel
theorem dX4_leastBest_13 : decode cX4_leastBest 13 = .ok (.getfield 97, 3) := by decide +kernel
theorem dX4_leastBest_16 : decode cX4_leastBest 16 = .ok (.aload_n 0, 1) := by decide +kernel
theorem dX4_leastBest_17 : decode cX4_leastBest 17 = .ok (.getfield 100, 3) := by decide +kernel
theorem dX4_leastBest_20 : decode cX4_leastBest 20 = .ok (.invokevirtual 110, 3) := by decide +kernel
theorem dX4_leastBest_23 : decode cX4_leastBest 23 = .ok (.ifCond .eq 5, 3) := by decide +kernel
theorem dX4_leastBest_26 : decode cX4_leastBest 26 = .ok (.iload_n 1, 1) := by decide +kernel
theorem dX4_leastBest_27 : decode cX4_leastBest 27 = .ok (.ireturn, 1) := by decide +kernel
theorem dX4_leastBest_28 : decode cX4_leastBest 28 = .ok (.iinc 1 1, 3) := by decide +kernel
theorem dX4_leastBest_31 : decode cX4_leastBest 31 = .ok (.goto (-29), 3) := by decide +kernel
theorem dX4_leastBest_34 : decode cX4_leastBest 34 = .ok (.iconst (-1), 1) := by decide +kernel
theorem dX4_leastBest_35 : decode cX4_leastBest 35 = .ok (.ireturn, 1) := by decide +kernel
def f_X4_leastBest (N : Nat)  (M : Mem) : Option (Int32) := lp (fun (k2 : Int32 → Option (Int32)) (a2 : Int32) => if (M.1 19 7) ≤ a2 then (some (-1 : Int32)) else (bd (f_X4_allows N a2 (M.1 19 3) (M.1 19 4) M) (fun v1 => if v1 = 0 then (nm (a2 + (1 : Int32)) (fun v3 => k2 v3)) else (some a2)))) N (0 : Int32)
set_option maxRecDepth 100000 in
set_option maxHeartbeats 4000000 in
theorem c_X4_leastBest {l : Launch} {D : va_G} {ac : Nat → ClassId} {A : Nat → Prop} {ad : Nat → Nat} {rest : va_W} (N : Nat)   (M : Mem) (r0 : Int32) (hf : f_X4_leastBest N  M = some r0) : CtI l D ac A tabX ad rest yX4_leastBest cX4_leastBest 2 .int 4 [.ref (ad 19)] M r0 M := by
  refine ct_ofI (own := RX4) (by decide +kernel) rfl (Nat.le_of_ble_eq_true rfl) ?_
  intro p e s m args below meth c C
  unfold f_X4_leastBest at hf
  refine a_L (L' := [(0, .ref (ad 19))]) rfl ?_
  refine a_iconst (pc := 0) (v := 0) C dX4_leastBest_0 (by decide) ?_
  refine a_istore_n (pc := 1) [(1, .int (0 : Int32)), (0, .ref (ad 19))] C dX4_leastBest_1 (by decide) rfl ?_
  refine a_sub [1, 0] rfl ?_
  refine a_lp 2 (fun a2 : Int32 => [(0, .ref (ad 19)), (1, .int a2)]) (fun a2 : Int32 => []) (fun a2 : Int32 => M) (fun k2 a2 hk2 hf => ?_) N (0 : Int32) hf
  refine a_iload_n (pc := 2) C dX4_leastBest_2 1 rfl ?_
  refine a_aload_n (pc := 3) C dX4_leastBest_3 0 rfl ?_
  refine a_getI (pc := 4) C dX4_leastBest_4 fl_X4_46 tx_19 rfl ?_
  refine a_icmp_ge (pc := 7) 34 C dX4_leastBest_7 (by decide) hf (fun hf => ?_) (fun hf => ?_)
  · refine a_iconst (pc := 34) (v := (-1)) C dX4_leastBest_34 (by decide) ?_
    exact a_iret (pc := 35) C dX4_leastBest_35 (Option.some.inj hf) rfl
  · refine a_aload_n (pc := 10) C dX4_leastBest_10 0 rfl ?_
    refine a_iload_n (pc := 11) C dX4_leastBest_11 1 rfl ?_
    refine a_aload_n (pc := 12) C dX4_leastBest_12 0 rfl ?_
    refine a_getI (pc := 13) C dX4_leastBest_13 fl_X4_97 tx_19 rfl ?_
    refine a_aload_n (pc := 16) C dX4_leastBest_16 0 rfl ?_
    refine a_getI (pc := 17) C dX4_leastBest_17 fl_X4_100 tx_19 rfl ?_
    refine a_callV_Ir (pc := 20) (d' := 3) C dX4_leastBest_20 ml_X4_110 mc_X4_allows mv_X4_allows tx_19 rfl [.int a2, .int (M.1 19 3), .int (M.1 19 4)] rfl (Nat.le_of_ble_eq_true rfl) (Nat.le_of_ble_eq_true rfl) rfl (Nat.le_of_ble_eq_true rfl) (fun r h => c_X4_allows N a2 (M.1 19 3) (M.1 19 4)  _  r h) hf (fun v1 hf => ?_)
    refine a_if_eq (pc := 23) 28 C dX4_leastBest_23 (by decide) hf (fun hf => ?_) (fun hf => ?_)
    · refine a_iinc (pc := 28) (v := 1) (fun v3 => [(1, .int v3), (0, .ref (ad 19))]) C dX4_leastBest_28 1 rfl (by decide) (by decide) (fun _ => rfl) hf (fun v3 hf => ?_)
      refine a_goto (pc := 31) 2 C dX4_leastBest_31 (by decide) ?_
      exact a_sub [1, 0] rfl (hk2 v3 hf)
    · refine a_iload_n (pc := 26) C dX4_leastBest_26 1 rfl ?_
      exact a_iret (pc := 27) C dX4_leastBest_27 (Option.some.inj hf) rfl
theorem dX4_isLessWithout_0 : decode cX4_isLessWithout 0 = .ok (.iconst 0, 1) := by decide +kernel
theorem dX4_isLessWithout_1 : decode cX4_isLessWithout 1 = .ok (.istore_n 2, 1) := by decide +kernel
theorem dX4_isLessWithout_2 : decode cX4_isLessWithout 2 = .ok (.iload_n 2, 1) := by decide +kernel
theorem dX4_isLessWithout_3 : decode cX4_isLessWithout 3 = .ok (.aload_n 0, 1) := by decide +kernel
theorem dX4_isLessWithout_4 : decode cX4_isLessWithout 4 = .ok (.getfield 46, 3) := by decide +kernel
theorem dX4_isLessWithout_7 : decode cX4_isLessWithout 7 = .ok (.iconst 2, 1) := by decide +kernel
theorem dX4_isLessWithout_8 : decode cX4_isLessWithout 8 = .ok (.idiv, 1) := by decide +kernel
theorem dX4_isLessWithout_9 : decode cX4_isLessWithout 9 = .ok (.if_icmp .ge 30, 3) := by decide +kernel
theorem dX4_isLessWithout_12 : decode cX4_isLessWithout 12 = .ok (.iload_n 2, 1) := by decide +kernel
theorem dX4_isLessWithout_13 : decode cX4_isLessWithout 13 = .ok (.iload_n 1, 1) := by decide +kernel
theorem dX4_isLessWithout_14 : decode cX4_isLessWithout 14 = .ok (.ishr, 1) := by decide +kernel
theorem dX4_isLessWithout_15 : decode cX4_isLessWithout 15 = .ok (.iconst 1, 1) := by decide +kernel
theorem dX4_isLessWithout_16 : decode cX4_isLessWithout 16 = .ok (.iand, 1) := by decide +kernel
theorem dX4_isLessWithout_17 : decode cX4_isLessWithout 17 = .ok (.ifCond .ne 16, 3) := by decide +kernel
theorem dX4_isLessWithout_20 : decode cX4_isLessWithout 20 = .ok (.aload_n 0, 1) := by decide +kernel
theorem dX4_isLessWithout_21 : decode cX4_isLessWithout 21 = .ok (.iload_n 2, 1) := by decide +kernel
theorem dX4_isLessWithout_22 : decode cX4_isLessWithout 22 = .ok (.iconst 1, 1) := by decide +kernel
theorem dX4_isLessWithout_23 : decode cX4_isLessWithout 23 = .ok (.iload_n 1, 1) := by decide +kernel
theorem dX4_isLessWithout_24 : decode cX4_isLessWithout 24 = .ok (.ishl, 1) := by decide +kernel
theorem dX4_isLessWithout_25 : decode cX4_isLessWithout 25 = .ok (.invokevirtual 114, 3) := by decide +kernel
theorem dX4_isLessWithout_28 : decode cX4_isLessWithout 28 = .ok (.ifCond .eq 5, 3) := by decide +kernel
theorem dX4_isLessWithout_31 : decode cX4_isLessWithout 31 = .ok (.iconst 1, 1) := by decide +kernel
theorem dX4_isLessWithout_32 : decode cX4_isLessWithout 32 = .ok (.ireturn, 1) := by decide +kernel
theorem dX4_isLessWithout_33 : decode cX4_isLessWithout 33 = .ok (.iinc 2 1, 3) := by decide +kernel
theorem dX4_isLessWithout_36 : decode cX4_isLessWithout 36 = .ok (.goto (-34), 3) := by decide +kernel
theorem dX4_isLessWithout_39 : decode cX4_isLessWithout 39 = .ok (.iconst 0, 1) := by decide +kernel
theorem dX4_isLessWithout_40 : decode cX4_isLessWithout 40 = .ok (.ireturn, 1) := by decide +kernel
def f_X4_isLessWithout (N : Nat) (x1 : Int32) (M : Mem) : Option (Int32) := lp (fun (k2 : Int32 → Option (Int32)) (a2 : Int32) => ck (¬ (2 : Int32) = 0) (if ((M.1 19 7) / (2 : Int32)) ≤ a2 then (some (0 : Int32)) else (jn (fun (a33 : Unit) => nm (a2 + (1 : Int32)) (fun v1 => k2 v1)) (fun (k33 : Unit → Option (Int32)) => if ((a2 >>> (x1 &&& 31)) &&& (1 : Int32)) = 0 then (bd (f_X4_isLessBy N a2 ((1 : Int32) <<< (x1 &&& 31)) M) (fun v2 => if v2 = 0 then (k33 ()) else (some (1 : Int32)))) else (k33 ()))))) N (0 : Int32)
set_option maxRecDepth 100000 in
set_option maxHeartbeats 4000000 in
theorem c_X4_isLessWithout {l : Launch} {D : va_G} {ac : Nat → ClassId} {A : Nat → Prop} {ad : Nat → Nat} {rest : va_W} (N : Nat) (x1 : Int32)  (M : Mem) (r0 : Int32) (hf : f_X4_isLessWithout N x1 M = some r0) : CtI l D ac A tabX ad rest yX4_isLessWithout cX4_isLessWithout 3 .boolean 4 [.ref (ad 19), .int x1] M r0 M := by
  refine ct_ofI (own := RX4) (by decide +kernel) rfl (Nat.le_of_ble_eq_true rfl) ?_
  intro p e s m args below meth c C
  unfold f_X4_isLessWithout at hf
  refine a_L (L' := [(0, .ref (ad 19)), (1, .int x1)]) rfl ?_
  refine a_iconst (pc := 0) (v := 0) C dX4_isLessWithout_0 (by decide) ?_
  refine a_istore_n (pc := 1) [(2, .int (0 : Int32)), (0, .ref (ad 19)), (1, .int x1)] C dX4_isLessWithout_1 (by decide) rfl ?_
  refine a_sub [1, 2, 0] rfl ?_
  refine a_lp 2 (fun a2 : Int32 => [(0, .ref (ad 19)), (1, .int x1), (2, .int a2)]) (fun a2 : Int32 => []) (fun a2 : Int32 => M) (fun k2 a2 hk2 hf => ?_) N (0 : Int32) hf
  refine a_iload_n (pc := 2) C dX4_isLessWithout_2 2 rfl ?_
  refine a_aload_n (pc := 3) C dX4_isLessWithout_3 0 rfl ?_
  refine a_getI (pc := 4) C dX4_isLessWithout_4 fl_X4_46 tx_19 rfl ?_
  refine a_iconst (pc := 7) (v := 2) C dX4_isLessWithout_7 (by decide) ?_
  refine a_idiv (pc := 8) C dX4_isLessWithout_8 hf (fun hf => ?_)
  refine a_icmp_ge (pc := 9) 39 C dX4_isLessWithout_9 (by decide) hf (fun hf => ?_) (fun hf => ?_)
  · refine a_iconst (pc := 39) (v := 0) C dX4_isLessWithout_39 (by decide) ?_
    exact a_zret (pc := 40) C dX4_isLessWithout_40 (Or.inl rfl) (Option.some.inj hf) rfl
  · refine a_iload_n (pc := 12) C dX4_isLessWithout_12 2 rfl ?_
    refine a_iload_n (pc := 13) C dX4_isLessWithout_13 1 rfl ?_
    refine a_ishr (pc := 14) C dX4_isLessWithout_14 ?_
    refine a_iconst (pc := 15) (v := 1) C dX4_isLessWithout_15 (by decide) ?_
    refine a_iand (pc := 16) C dX4_isLessWithout_16 ?_
    refine a_jn 33 (fun a33 : Unit => [(0, .ref (ad 19)), (1, .int x1), (2, .int a2)]) (fun a33 : Unit => []) (fun a33 : Unit => M) hf (fun a33 hf => ?_) (fun k33 hk33 hf => ?_)
    · refine a_iinc (pc := 33) (v := 1) (fun v1 => [(2, .int v1), (0, .ref (ad 19)), (1, .int x1)]) C dX4_isLessWithout_33 2 rfl (by decide) (by decide) (fun _ => rfl) hf (fun v1 hf => ?_)
      refine a_goto (pc := 36) 2 C dX4_isLessWithout_36 (by decide) ?_
      exact a_sub [1, 2, 0] rfl (hk2 v1 hf)
    · refine a_if_ne (pc := 17) 33 C dX4_isLessWithout_17 (by decide) hf (fun hf => ?_) (fun hf => ?_)
      · exact a_sub [0, 1, 2] rfl (hk33 () hf)
      · refine a_aload_n (pc := 20) C dX4_isLessWithout_20 0 rfl ?_
        refine a_iload_n (pc := 21) C dX4_isLessWithout_21 2 rfl ?_
        refine a_iconst (pc := 22) (v := 1) C dX4_isLessWithout_22 (by decide) ?_
        refine a_iload_n (pc := 23) C dX4_isLessWithout_23 1 rfl ?_
        refine a_ishl (pc := 24) C dX4_isLessWithout_24 ?_
        refine a_callV_Ir (pc := 25) (d' := 3) C dX4_isLessWithout_25 ml_X4_114 mc_X4_isLessBy mv_X4_isLessBy tx_19 rfl [.int a2, .int ((1 : Int32) <<< (x1 &&& 31))] rfl (Nat.le_of_ble_eq_true rfl) (Nat.le_of_ble_eq_true rfl) rfl (Nat.le_of_ble_eq_true rfl) (fun r h => c_X4_isLessBy N a2 ((1 : Int32) <<< (x1 &&& 31))  _  r h) hf (fun v2 hf => ?_)
        refine a_if_eq (pc := 28) 33 C dX4_isLessWithout_28 (by decide) hf (fun hf => ?_) (fun hf => ?_)
        · exact a_sub [0, 1, 2] rfl (hk33 () hf)
        · refine a_iconst (pc := 31) (v := 1) C dX4_isLessWithout_31 (by decide) ?_
          exact a_zret (pc := 32) C dX4_isLessWithout_32 (Or.inr rfl) (Option.some.inj hf) rfl
theorem dX4_roomOf_0 : decode cX4_roomOf 0 = .ok (.iconst 0, 1) := by decide +kernel
theorem dX4_roomOf_1 : decode cX4_roomOf 1 = .ok (.istore_n 2, 1) := by decide +kernel
theorem dX4_roomOf_2 : decode cX4_roomOf 2 = .ok (.iconst 0, 1) := by decide +kernel
theorem dX4_roomOf_3 : decode cX4_roomOf 3 = .ok (.istore_n 3, 1) := by decide +kernel
theorem dX4_roomOf_4 : decode cX4_roomOf 4 = .ok (.iload_n 3, 1) := by decide +kernel
theorem dX4_roomOf_5 : decode cX4_roomOf 5 = .ok (.aload_n 0, 1) := by decide +kernel
theorem dX4_roomOf_6 : decode cX4_roomOf 6 = .ok (.getfield 46, 3) := by decide +kernel
theorem dX4_roomOf_9 : decode cX4_roomOf 9 = .ok (.if_icmp .ge 38, 3) := by decide +kernel
theorem dX4_roomOf_12 : decode cX4_roomOf 12 = .ok (.aload_n 0, 1) := by decide +kernel
theorem dX4_roomOf_13 : decode cX4_roomOf 13 = .ok (.iload_n 3, 1) := by decide +kernel
theorem dX4_roomOf_14 : decode cX4_roomOf 14 = .ok (.aload_n 0, 1) := by decide +kernel
theorem dX4_roomOf_15 : decode cX4_roomOf 15 = .ok (.getfield 97, 3) := by decide +kernel
theorem dX4_roomOf_18 : decode cX4_roomOf 18 = .ok (.aload_n 0, 1) := by decide +kernel
theorem dX4_roomOf_19 : decode cX4_roomOf 19 = .ok (.getfield 100, 3) := by decide +kernel
theorem dX4_roomOf_22 : decode cX4_roomOf 22 = .ok (.invokevirtual 110, 3) := by decide +kernel
theorem dX4_roomOf_25 : decode cX4_roomOf 25 = .ok (.ifCond .eq 16, 3) := by decide +kernel
theorem dX4_roomOf_28 : decode cX4_roomOf 28 = .ok (.iload_n 2, 1) := by decide +kernel
theorem dX4_roomOf_29 : decode cX4_roomOf 29 = .ok (.aload_n 0, 1) := by decide +kernel
theorem dX4_roomOf_30 : decode cX4_roomOf 30 = .ok (.iload_n 3, 1) := by decide +kernel
theorem dX4_roomOf_31 : decode cX4_roomOf 31 = .ok (.iconst 1, 1) := by decide +kernel
theorem dX4_roomOf_32 : decode cX4_roomOf 32 = .ok (.iload_n 1, 1) := by decide +kernel
theorem dX4_roomOf_33 : decode cX4_roomOf 33 = .ok (.ishl, 1) := by decide +kernel
theorem dX4_roomOf_34 : decode cX4_roomOf 34 = .ok (.invokevirtual 118, 3) := by decide +kernel
theorem dX4_roomOf_37 : decode cX4_roomOf 37 = .ok (.invokestatic 121, 3) := by decide +kernel
theorem dX4_roomOf_40 : decode cX4_roomOf 40 = .ok (.istore_n 2, 1) := by decide +kernel
theorem dX4_roomOf_41 : decode cX4_roomOf 41 = .ok (.iinc 3 1, 3) := by decide +kernel
theorem dX4_roomOf_44 : decode cX4_roomOf 44 = .ok (.goto (-40), 3) := by decide +kernel
theorem dX4_roomOf_47 : decode cX4_roomOf 47 = .ok (.iload_n 2, 1) := by decide +kernel
theorem dX4_roomOf_48 : decode cX4_roomOf 48 = .ok (.ireturn, 1) := by decide +kernel
def f_X4_roomOf (N : Nat) (x1 : Int32) (M : Mem) : Option (Int32) := lp (fun (k4 : (Int32 × Int32) → Option (Int32)) (a4 : Int32 × Int32) => if (M.1 19 7) ≤ a4.2 then (some a4.1) else (bd (f_X4_allows N a4.2 (M.1 19 3) (M.1 19 4) M) (fun v1 => jn (fun (a41 : Int32) => nm (a4.2 + (1 : Int32)) (fun v3 => k4 (a41, v3))) (fun (k41 : Int32 → Option (Int32)) => if v1 = 0 then (k41 a4.1) else (bd (f_X4_roomBy N a4.2 ((1 : Int32) <<< (x1 &&& 31)) M) (fun v4 => bd (f_J9_max_7cf53 N a4.1 v4 M) (fun v6 => k41 v6))))))) N ((0 : Int32), (0 : Int32))
set_option maxRecDepth 100000 in
set_option maxHeartbeats 4000000 in
theorem c_X4_roomOf {l : Launch} {D : va_G} {ac : Nat → ClassId} {A : Nat → Prop} {ad : Nat → Nat} {rest : va_W} (N : Nat) (x1 : Int32)  (M : Mem) (r0 : Int32) (hf : f_X4_roomOf N x1 M = some r0) : CtI l D ac A tabX ad rest yX4_roomOf cX4_roomOf 4 .int 4 [.ref (ad 19), .int x1] M r0 M := by
  refine ct_ofI (own := RX4) (by decide +kernel) rfl (Nat.le_of_ble_eq_true rfl) ?_
  intro p e s m args below meth c C
  unfold f_X4_roomOf at hf
  refine a_L (L' := [(0, .ref (ad 19)), (1, .int x1)]) rfl ?_
  refine a_iconst (pc := 0) (v := 0) C dX4_roomOf_0 (by decide) ?_
  refine a_istore_n (pc := 1) [(2, .int (0 : Int32)), (0, .ref (ad 19)), (1, .int x1)] C dX4_roomOf_1 (by decide) rfl ?_
  refine a_iconst (pc := 2) (v := 0) C dX4_roomOf_2 (by decide) ?_
  refine a_istore_n (pc := 3) [(3, .int (0 : Int32)), (2, .int (0 : Int32)), (0, .ref (ad 19)), (1, .int x1)] C dX4_roomOf_3 (by decide) rfl ?_
  refine a_sub [2, 3, 1, 0] rfl ?_
  refine a_lp 4 (fun a4 : Int32 × Int32 => [(0, .ref (ad 19)), (1, .int x1), (2, .int a4.1), (3, .int a4.2)]) (fun a4 : Int32 × Int32 => []) (fun a4 : Int32 × Int32 => M) (fun k4 a4 hk4 hf => ?_) N ((0 : Int32), (0 : Int32)) hf
  refine a_iload_n (pc := 4) C dX4_roomOf_4 3 rfl ?_
  refine a_aload_n (pc := 5) C dX4_roomOf_5 0 rfl ?_
  refine a_getI (pc := 6) C dX4_roomOf_6 fl_X4_46 tx_19 rfl ?_
  refine a_icmp_ge (pc := 9) 47 C dX4_roomOf_9 (by decide) hf (fun hf => ?_) (fun hf => ?_)
  · refine a_iload_n (pc := 47) C dX4_roomOf_47 2 rfl ?_
    exact a_iret (pc := 48) C dX4_roomOf_48 (Option.some.inj hf) rfl
  · refine a_aload_n (pc := 12) C dX4_roomOf_12 0 rfl ?_
    refine a_iload_n (pc := 13) C dX4_roomOf_13 3 rfl ?_
    refine a_aload_n (pc := 14) C dX4_roomOf_14 0 rfl ?_
    refine a_getI (pc := 15) C dX4_roomOf_15 fl_X4_97 tx_19 rfl ?_
    refine a_aload_n (pc := 18) C dX4_roomOf_18 0 rfl ?_
    refine a_getI (pc := 19) C dX4_roomOf_19 fl_X4_100 tx_19 rfl ?_
    refine a_callV_Ir (pc := 22) (d' := 3) C dX4_roomOf_22 ml_X4_110 mc_X4_allows mv_X4_allows tx_19 rfl [.int a4.2, .int (M.1 19 3), .int (M.1 19 4)] rfl (Nat.le_of_ble_eq_true rfl) (Nat.le_of_ble_eq_true rfl) rfl (Nat.le_of_ble_eq_true rfl) (fun r h => c_X4_allows N a4.2 (M.1 19 3) (M.1 19 4)  _  r h) hf (fun v1 hf => ?_)
    refine a_jn 41 (fun a41 : Int32 => [(0, .ref (ad 19)), (1, .int x1), (2, .int a41), (3, .int a4.2)]) (fun a41 : Int32 => []) (fun a41 : Int32 => M) hf (fun a41 hf => ?_) (fun k41 hk41 hf => ?_)
    · refine a_iinc (pc := 41) (v := 1) (fun v3 => [(3, .int v3), (0, .ref (ad 19)), (1, .int x1), (2, .int a41)]) C dX4_roomOf_41 3 rfl (by decide) (by decide) (fun _ => rfl) hf (fun v3 hf => ?_)
      refine a_goto (pc := 44) 4 C dX4_roomOf_44 (by decide) ?_
      exact a_sub [1, 2, 3, 0] rfl (hk4 (a41, v3) hf)
    · refine a_if_eq (pc := 25) 41 C dX4_roomOf_25 (by decide) hf (fun hf => ?_) (fun hf => ?_)
      · exact a_sub [0, 1, 2, 3] rfl (hk41 a4.1 hf)
      · refine a_iload_n (pc := 28) C dX4_roomOf_28 2 rfl ?_
        refine a_aload_n (pc := 29) C dX4_roomOf_29 0 rfl ?_
        refine a_iload_n (pc := 30) C dX4_roomOf_30 3 rfl ?_
        refine a_iconst (pc := 31) (v := 1) C dX4_roomOf_31 (by decide) ?_
        refine a_iload_n (pc := 32) C dX4_roomOf_32 1 rfl ?_
        refine a_ishl (pc := 33) C dX4_roomOf_33 ?_
        refine a_callV_Ir (pc := 34) (d' := 3) C dX4_roomOf_34 ml_X4_118 mc_X4_roomBy mv_X4_roomBy tx_19 rfl [.int a4.2, .int ((1 : Int32) <<< (x1 &&& 31))] rfl (Nat.le_of_ble_eq_true rfl) (Nat.le_of_ble_eq_true rfl) rfl (Nat.le_of_ble_eq_true rfl) (fun r h => c_X4_roomBy N a4.2 ((1 : Int32) <<< (x1 &&& 31))  _  r h) hf (fun v4 hf => ?_)
        refine a_callS_Ir (pc := 37) (d' := 1) C dX4_roomOf_37 ml_X4_121 mc_J9_max_7cf53 ms_J9_max_7cf53 [.int a4.1, .int v4] rfl (Nat.le_of_ble_eq_true rfl) (Nat.le_of_ble_eq_true rfl) rfl (Nat.le_of_ble_eq_true rfl) (fun r h => c_J9_max_7cf53 N a4.1 v4  _  r h) hf (fun v6 hf => ?_)
        refine a_istore_n (pc := 40) [(2, .int v6), (0, .ref (ad 19)), (1, .int x1), (3, .int a4.2)] C dX4_roomOf_40 (by decide) rfl ?_
        exact a_sub [1, 2, 0, 3] rfl (hk41 v6 hf)
theorem dX6_readsPoints_0 : decode cX6_readsPoints 0 = .ok (.aload_n 0, 1) := by decide +kernel
theorem dX6_readsPoints_1 : decode cX6_readsPoints 1 = .ok (.iconst 1, 1) := by decide +kernel
theorem dX6_readsPoints_2 : decode cX6_readsPoints 2 = .ok (.bipush 6, 2) := by decide +kernel
theorem dX6_readsPoints_4 : decode cX6_readsPoints 4 = .ok (.aload_n 1, 1) := by decide +kernel
theorem dX6_readsPoints_5 : decode cX6_readsPoints 5 = .ok (.getfield 64, 3) := by decide +kernel
theorem dX6_readsPoints_8 : decode cX6_readsPoints 8 = .ok (.isub, 1) := by decide +kernel
theorem dX6_readsPoints_9 : decode cX6_readsPoints 9 = .ok (.invokevirtual 66, 3) := by decide +kernel
theorem dX6_readsPoints_12 : decode cX6_readsPoints 12 = .ok (.istore_n 2, 1) := by decide +kernel
theorem dX6_readsPoints_13 : decode cX6_readsPoints 13 = .ok (.iload_n 2, 1) := by decide +kernel
theorem dX6_readsPoints_14 : decode cX6_readsPoints 14 = .ok (.iconst (-1), 1) := by decide +kernel
theorem dX6_readsPoints_15 : decode cX6_readsPoints 15 = .ok (.if_icmp .ne 5, 3) := by decide +kernel
theorem dX6_readsPoints_18 : decode cX6_readsPoints 18 = .ok (.iconst 0, 1) := by decide +kernel
theorem dX6_readsPoints_19 : decode cX6_readsPoints 19 = .ok (.ireturn, 1) := by decide +kernel
theorem dX6_readsPoints_20 : decode cX6_readsPoints 20 = .ok (.aload_n 1, 1) := by decide +kernel
theorem dX6_readsPoints_21 : decode cX6_readsPoints 21 = .ok (.iload_n 2, 1) := by decide +kernel
theorem dX6_readsPoints_22 : decode cX6_readsPoints 22 = .ok (.invokevirtual 70, 3) := by decide +kernel
theorem dX6_readsPoints_25 : decode cX6_readsPoints 25 = .ok (.iconst 1, 1) := by decide +kernel
theorem dX6_readsPoints_26 : decode cX6_readsPoints 26 = .ok (.ireturn, 1) := by decide +kernel
def f_X6_readsPoints (N : Nat) (c1 : Nat) (M : Mem) : Option (Int32 × Mem) := bd (f_X6_readNumber N (1 : Int32) ((6 : Int32) - (M.1 c1 0)) M) (fun w3 => if w3.1 = (-1 : Int32) then (some ((0 : Int32), w3.2)) else (bd (f_X1_addPoints N c1 w3.1 w3.2) (fun M5 => some ((1 : Int32), M5))))
set_option maxRecDepth 100000 in
set_option maxHeartbeats 4000000 in
theorem c_X6_readsPoints {l : Launch} {D : va_G} {ac : Nat → ClassId} {A : Nat → Prop} {ad : Nat → Nat} {rest : va_W} (N : Nat) (c1 : Nat) (hc1 : NetAt tabX c1) (M : Mem) (r0 : Int32) (M0 : Mem) (hf : f_X6_readsPoints N c1 M = some (r0, M0)) : CtI l D ac A tabX ad rest yX6_readsPoints cX6_readsPoints 3 .boolean 4 [.ref (ad 31), .ref (ad c1)] M r0 M0 := by
  refine ct_ofI (own := RX6) (by decide +kernel) rfl (Nat.le_of_ble_eq_true rfl) ?_
  intro p e s m args below meth c C
  unfold f_X6_readsPoints at hf
  refine a_L (L' := [(0, .ref (ad 31)), (1, .ref (ad c1))]) rfl ?_
  refine a_aload_n (pc := 0) C dX6_readsPoints_0 0 rfl ?_
  refine a_iconst (pc := 1) (v := 1) C dX6_readsPoints_1 (by decide) ?_
  refine a_bipush (pc := 2) (v := 6) C dX6_readsPoints_2 (by decide) ?_
  refine a_aload_n (pc := 4) C dX6_readsPoints_4 1 rfl ?_
  refine a_getI (pc := 5) C dX6_readsPoints_5 fl_X6_64 hc1.1 rfl ?_
  refine a_isub (pc := 8) C dX6_readsPoints_8 ?_
  refine a_callV_I (pc := 9) (d' := 3) C dX6_readsPoints_9 ml_X6_66 mc_X6_readNumber mv_X6_readNumber tx_31 rfl [.int (1 : Int32), .int ((6 : Int32) - (M.1 c1 0))] rfl (Nat.le_of_ble_eq_true rfl) (Nat.le_of_ble_eq_true rfl) rfl (Nat.le_of_ble_eq_true rfl) (fun r M' h => c_X6_readNumber N (1 : Int32) ((6 : Int32) - (M.1 c1 0))  _  r M' h) hf (fun v1 M2 hf => ?_)
  refine a_istore_n (pc := 12) [(2, .int v1), (0, .ref (ad 31)), (1, .ref (ad c1))] C dX6_readsPoints_12 (by decide) rfl ?_
  refine a_iload_n (pc := 13) C dX6_readsPoints_13 0 rfl ?_
  refine a_iconst (pc := 14) (v := (-1)) C dX6_readsPoints_14 (by decide) ?_
  refine a_icmp_ne (pc := 15) 20 C dX6_readsPoints_15 (by decide) hf (fun hf => ?_) (fun hf => ?_)
  · refine a_aload_n (pc := 20) C dX6_readsPoints_20 2 rfl ?_
    refine a_iload_n (pc := 21) C dX6_readsPoints_21 0 rfl ?_
    refine a_callV_V (pc := 22) (d' := 1) C dX6_readsPoints_22 ml_X6_70 mc_X1_addPoints mv_X1_addPoints hc1.1 rfl [.int v1] rfl (Nat.le_of_ble_eq_true rfl) (Nat.le_of_ble_eq_true rfl) rfl (Nat.le_of_ble_eq_true rfl) (fun M' h => c_X1_addPoints N c1 v1 hc1 _  M' h) hf (fun M5 hf => ?_)
    refine a_iconst (pc := 25) (v := 1) C dX6_readsPoints_25 (by decide) ?_
    exact a_zret (pc := 26) C dX6_readsPoints_26 (Or.inr rfl) (so_1 hf) (so_2 hf)
  · refine a_iconst (pc := 18) (v := 0) C dX6_readsPoints_18 (by decide) ?_
    exact a_zret (pc := 19) C dX6_readsPoints_19 (Or.inl rfl) (so_1 hf) (so_2 hf)
theorem dX6_readsList_0 : decode cX6_readsList 0 = .ok (.aload_n 0, 1) := by decide +kernel
theorem dX6_readsList_1 : decode cX6_readsList 1 = .ok (.iconst 0, 1) := by decide +kernel
theorem dX6_readsList_2 : decode cX6_readsList 2 = .ok (.aload_n 1, 1) := by decide +kernel
theorem dX6_readsList_3 : decode cX6_readsList 3 = .ok (.getfield 64, 3) := by decide +kernel
theorem dX6_readsList_6 : decode cX6_readsList 6 = .ok (.iconst 1, 1) := by decide +kernel
theorem dX6_readsList_7 : decode cX6_readsList 7 = .ok (.isub, 1) := by decide +kernel
theorem dX6_readsList_8 : decode cX6_readsList 8 = .ok (.invokevirtual 66, 3) := by decide +kernel
theorem dX6_readsList_11 : decode cX6_readsList 11 = .ok (.istore_n 2, 1) := by decide +kernel
theorem dX6_readsList_12 : decode cX6_readsList 12 = .ok (.iload_n 2, 1) := by decide +kernel
theorem dX6_readsList_13 : decode cX6_readsList 13 = .ok (.iconst (-1), 1) := by decide +kernel
theorem dX6_readsList_14 : decode cX6_readsList 14 = .ok (.if_icmp .ne 7, 3) := by decide +kernel
theorem dX6_readsList_17 : decode cX6_readsList 17 = .ok (.iconst (-1), 1) := by decide +kernel
theorem dX6_readsList_18 : decode cX6_readsList 18 = .ok (.goto 10, 3) := by decide +kernel
theorem dX6_readsList_21 : decode cX6_readsList 21 = .ok (.aload_n 0, 1) := by decide +kernel
theorem dX6_readsList_22 : decode cX6_readsList 22 = .ok (.iconst 0, 1) := by decide +kernel
theorem dX6_readsList_23 : decode cX6_readsList 23 = .ok (.bipush 39, 2) := by decide +kernel
theorem dX6_readsList_25 : decode cX6_readsList 25 = .ok (.invokevirtual 66, 3) := by decide +kernel
theorem dX6_readsList_28 : decode cX6_readsList 28 = .ok (.istore_n 3, 1) := by decide +kernel
theorem dX6_readsList_29 : decode cX6_readsList 29 = .ok (.iload_n 3, 1) := by decide +kernel
theorem dX6_readsList_30 : decode cX6_readsList 30 = .ok (.iconst (-1), 1) := by decide +kernel
theorem dX6_readsList_31 : decode cX6_readsList 31 = .ok (.if_icmp .ne 7, 3) := by decide +kernel
theorem dX6_readsList_34 : decode cX6_readsList 34 = .ok (.iconst (-1), 1) := by decide +kernel
theorem dX6_readsList_35 : decode cX6_readsList 35 = .ok (.goto 10, 3) := by decide +kernel
theorem dX6_readsList_38 : decode cX6_readsList 38 = .ok (.aload_n 0, 1) := by decide +kernel
theorem dX6_readsList_39 : decode cX6_readsList 39 = .ok (.iload_n 3, 1) := by decide +kernel
theorem dX6_readsList_40 : decode cX6_readsList 40 = .ok (.bipush 39, 2) := by decide +kernel
theorem dX6_readsList_42 : decode cX6_readsList 42 = .ok (.invokevirtual 66, 3) := by decide +kernel
theorem dX6_readsList_45 : decode cX6_readsList 45 = .ok (.istore 4, 2) := by decide +kernel
theorem dX6_readsList_47 : decode cX6_readsList 47 = .ok (.iload 4, 2) := by decide +kernel
theorem dX6_readsList_49 : decode cX6_readsList 49 = .ok (.iconst (-1), 1) := by decide +kernel
theorem dX6_readsList_50 : decode cX6_readsList 50 = .ok (.if_icmp .ne 5, 3) := by decide +kernel
theorem dX6_readsList_53 : decode cX6_readsList 53 = .ok (.iconst 0, 1) := by decide +kernel
theorem dX6_readsList_54 : decode cX6_readsList 54 = .ok (.ireturn, 1) := by decide +kernel
theorem dX6_readsList_55 : decode cX6_readsList 55 = .ok (.aload_n 1, 1) := by decide +kernel
theorem dX6_readsList_56 : decode cX6_readsList 56 = .ok (.getfield 90, 3) := by decide +kernel
theorem dX6_readsList_59 : decode cX6_readsList 59 = .ok (.iload_n 2, 1) := by decide +kernel
theorem dX6_readsList_60 : decode cX6_readsList 60 = .ok (.lconst 1, 1) := by decide +kernel
theorem dX6_readsList_61 : decode cX6_readsList 61 = .ok (.iload 4, 2) := by decide +kernel
theorem dX6_readsList_63 : decode cX6_readsList 63 = .ok (.iload_n 3, 1) := by decide +kernel
theorem dX6_readsList_64 : decode cX6_readsList 64 = .ok (.isub, 1) := by decide +kernel
theorem dX6_readsList_65 : decode cX6_readsList 65 = .ok (.iconst 1, 1) := by decide +kernel
theorem dX6_readsList_66 : decode cX6_readsList 66 = .ok (.iadd, 1) := by decide +kernel
theorem dX6_readsList_67 : decode cX6_readsList 67 = .ok (.lshl, 1) := by decide +kernel
theorem dX6_readsList_68 : decode cX6_readsList 68 = .ok (.lconst 1, 1) := by decide +kernel
theorem dX6_readsList_69 : decode cX6_readsList 69 = .ok (.lsub, 1) := by decide +kernel
theorem dX6_readsList_70 : decode cX6_readsList 70 = .ok (.iload_n 3, 1) := by decide +kernel
theorem dX6_readsList_71 : decode cX6_readsList 71 = .ok (.lshl, 1) := by decide +kernel
theorem dX6_readsList_72 : decode cX6_readsList 72 = .ok (.lastore, 1) := by decide +kernel
theorem dX6_readsList_73 : decode cX6_readsList 73 = .ok (.iconst 1, 1) := by decide +kernel
theorem dX6_readsList_74 : decode cX6_readsList 74 = .ok (.ireturn, 1) := by decide +kernel
def f_X6_readsList (N : Nat) (c1 : Nat) (M : Mem) : Option (Int32 × Mem) := bd (f_X6_readNumber N (0 : Int32) ((M.1 c1 0) - (1 : Int32)) M) (fun w3 => jn (fun (a28 : Int32 × Mem) => jn (fun (a45 : Int32 × Mem) => if a45.1 = (-1 : Int32) then (some ((0 : Int32), a45.2)) else (ck (inb w3.1 6) (nm (setJ a45.2 (c1 + 5) w3.1.toNatClampNeg ((((1 : Int64) <<< (((a45.1 - a28.1) + (1 : Int32)).toInt64 &&& 63)) - (1 : Int64)) <<< (a28.1.toInt64 &&& 63))) (fun M4 => some ((1 : Int32), M4))))) (fun (k45 : (Int32 × Mem) → Option (Int32 × Mem)) => if a28.1 = (-1 : Int32) then (k45 ((-1 : Int32), a28.2)) else (bd (f_X6_readNumber N a28.1 (39 : Int32) a28.2) (fun w7 => k45 (w7.1, w7.2))))) (fun (k28 : (Int32 × Mem) → Option (Int32 × Mem)) => if w3.1 = (-1 : Int32) then (k28 ((-1 : Int32), w3.2)) else (bd (f_X6_readNumber N (0 : Int32) (39 : Int32) w3.2) (fun w10 => k28 (w10.1, w10.2)))))
set_option maxRecDepth 100000 in
set_option maxHeartbeats 4000000 in
theorem c_X6_readsList {l : Launch} {D : va_G} {ac : Nat → ClassId} {A : Nat → Prop} {ad : Nat → Nat} {rest : va_W} (N : Nat) (c1 : Nat) (hc1 : NetAt tabX c1) (M : Mem) (r0 : Int32) (M0 : Mem) (hf : f_X6_readsList N c1 M = some (r0, M0)) : CtI l D ac A tabX ad rest yX6_readsList cX6_readsList 5 .boolean 4 [.ref (ad 31), .ref (ad c1)] M r0 M0 := by
  refine ct_ofI (own := RX6) (by decide +kernel) rfl (Nat.le_of_ble_eq_true rfl) ?_
  intro p e s m args below meth c C
  unfold f_X6_readsList at hf
  refine a_L (L' := [(0, .ref (ad 31)), (1, .ref (ad c1))]) rfl ?_
  refine a_aload_n (pc := 0) C dX6_readsList_0 0 rfl ?_
  refine a_iconst (pc := 1) (v := 0) C dX6_readsList_1 (by decide) ?_
  refine a_aload_n (pc := 2) C dX6_readsList_2 1 rfl ?_
  refine a_getI (pc := 3) C dX6_readsList_3 fl_X6_64 hc1.1 rfl ?_
  refine a_iconst (pc := 6) (v := 1) C dX6_readsList_6 (by decide) ?_
  refine a_isub (pc := 7) C dX6_readsList_7 ?_
  refine a_callV_I (pc := 8) (d' := 3) C dX6_readsList_8 ml_X6_66 mc_X6_readNumber mv_X6_readNumber tx_31 rfl [.int (0 : Int32), .int ((M.1 c1 0) - (1 : Int32))] rfl (Nat.le_of_ble_eq_true rfl) (Nat.le_of_ble_eq_true rfl) rfl (Nat.le_of_ble_eq_true rfl) (fun r M' h => c_X6_readNumber N (0 : Int32) ((M.1 c1 0) - (1 : Int32))  _  r M' h) hf (fun v1 M2 hf => ?_)
  refine a_istore_n (pc := 11) [(2, .int v1), (0, .ref (ad 31)), (1, .ref (ad c1))] C dX6_readsList_11 (by decide) rfl ?_
  refine a_iload_n (pc := 12) C dX6_readsList_12 0 rfl ?_
  refine a_iconst (pc := 13) (v := (-1)) C dX6_readsList_13 (by decide) ?_
  refine a_jn 28 (fun a28 : Int32 × Mem => [(0, .ref (ad 31)), (1, .ref (ad c1)), (2, .int v1)]) (fun a28 : Int32 × Mem => [.int a28.1]) (fun a28 : Int32 × Mem => a28.2) hf (fun a28 hf => ?_) (fun k28 hk28 hf => ?_)
  · refine a_istore_n (pc := 28) [(3, .int a28.1), (0, .ref (ad 31)), (1, .ref (ad c1)), (2, .int v1)] C dX6_readsList_28 (by decide) rfl ?_
    refine a_iload_n (pc := 29) C dX6_readsList_29 0 rfl ?_
    refine a_iconst (pc := 30) (v := (-1)) C dX6_readsList_30 (by decide) ?_
    refine a_jn 45 (fun a45 : Int32 × Mem => [(1, .ref (ad c1)), (2, .int v1), (3, .int a28.1)]) (fun a45 : Int32 × Mem => [.int a45.1]) (fun a45 : Int32 × Mem => a45.2) hf (fun a45 hf => ?_) (fun k45 hk45 hf => ?_)
    · refine a_istore (pc := 45) [(4, .int a45.1), (1, .ref (ad c1)), (2, .int v1), (3, .int a28.1)] C dX6_readsList_45 (by decide) rfl ?_
      refine a_iload (pc := 47) C dX6_readsList_47 0 rfl ?_
      refine a_iconst (pc := 49) (v := (-1)) C dX6_readsList_49 (by decide) ?_
      refine a_icmp_ne (pc := 50) 55 C dX6_readsList_50 (by decide) hf (fun hf => ?_) (fun hf => ?_)
      · refine a_aload_n (pc := 55) C dX6_readsList_55 1 rfl ?_
        refine a_getR (pc := 56) C dX6_readsList_56 fl_X6_90 hc1.1 rfl ?_
        refine a_iload_n (pc := 59) C dX6_readsList_59 2 rfl ?_
        refine a_lconst (pc := 60) (v := 1) C dX6_readsList_60 (by decide) ?_
        refine a_iload (pc := 61) C dX6_readsList_61 0 rfl ?_
        refine a_iload_n (pc := 63) C dX6_readsList_63 3 rfl ?_
        refine a_isub (pc := 64) C dX6_readsList_64 ?_
        refine a_iconst (pc := 65) (v := 1) C dX6_readsList_65 (by decide) ?_
        refine a_iadd (pc := 66) C dX6_readsList_66 ?_
        refine a_lshl (pc := 67) C dX6_readsList_67 ?_
        refine a_lconst (pc := 68) (v := 1) C dX6_readsList_68 (by decide) ?_
        refine a_lsub (pc := 69) C dX6_readsList_69 ?_
        refine a_iload_n (pc := 70) C dX6_readsList_70 3 rfl ?_
        refine a_lshl (pc := 71) C dX6_readsList_71 ?_
        refine a_last (pc := 72) C dX6_readsList_72 hc1.2.2.2.2.2 hf (fun M4 hf => ?_)
        refine a_iconst (pc := 73) (v := 1) C dX6_readsList_73 (by decide) ?_
        exact a_zret (pc := 74) C dX6_readsList_74 (Or.inr rfl) (so_1 hf) (so_2 hf)
      · refine a_iconst (pc := 53) (v := 0) C dX6_readsList_53 (by decide) ?_
        exact a_zret (pc := 54) C dX6_readsList_54 (Or.inl rfl) (so_1 hf) (so_2 hf)
    · refine a_icmp_ne (pc := 31) 38 C dX6_readsList_31 (by decide) hf (fun hf => ?_) (fun hf => ?_)
      · refine a_aload_n (pc := 38) C dX6_readsList_38 1 rfl ?_
        refine a_iload_n (pc := 39) C dX6_readsList_39 0 rfl ?_
        refine a_bipush (pc := 40) (v := 39) C dX6_readsList_40 (by decide) ?_
        refine a_callV_I (pc := 42) (d' := 3) C dX6_readsList_42 ml_X6_66 mc_X6_readNumber mv_X6_readNumber tx_31 rfl [.int a28.1, .int (39 : Int32)] rfl (Nat.le_of_ble_eq_true rfl) (Nat.le_of_ble_eq_true rfl) rfl (Nat.le_of_ble_eq_true rfl) (fun r M' h => c_X6_readNumber N a28.1 (39 : Int32)  _  r M' h) hf (fun v5 M6 hf => ?_)
        exact a_sub [2, 3, 0] rfl (hk45 (v5, M6) hf)
      · refine a_iconst (pc := 34) (v := (-1)) C dX6_readsList_34 (by decide) ?_
        refine a_goto (pc := 35) 45 C dX6_readsList_35 (by decide) ?_
        exact a_sub [2, 3, 0] rfl (hk45 ((-1 : Int32), a28.2) hf)
  · refine a_icmp_ne (pc := 14) 21 C dX6_readsList_14 (by decide) hf (fun hf => ?_) (fun hf => ?_)
    · refine a_aload_n (pc := 21) C dX6_readsList_21 1 rfl ?_
      refine a_iconst (pc := 22) (v := 0) C dX6_readsList_22 (by decide) ?_
      refine a_bipush (pc := 23) (v := 39) C dX6_readsList_23 (by decide) ?_
      refine a_callV_I (pc := 25) (d' := 3) C dX6_readsList_25 ml_X6_66 mc_X6_readNumber mv_X6_readNumber tx_31 rfl [.int (0 : Int32), .int (39 : Int32)] rfl (Nat.le_of_ble_eq_true rfl) (Nat.le_of_ble_eq_true rfl) rfl (Nat.le_of_ble_eq_true rfl) (fun r M' h => c_X6_readNumber N (0 : Int32) (39 : Int32)  _  r M' h) hf (fun v8 M9 hf => ?_)
      exact a_sub [1, 2, 0] rfl (hk28 (v8, M9) hf)
    · refine a_iconst (pc := 17) (v := (-1)) C dX6_readsList_17 (by decide) ?_
      refine a_goto (pc := 18) 28 C dX6_readsList_18 (by decide) ?_
      exact a_sub [1, 2, 0] rfl (hk28 ((-1 : Int32), M2) hf)
theorem dX7_count_0 : decode cX7_count 0 = .ok (.iload_n 1, 1) := by decide +kernel
theorem dX7_count_1 : decode cX7_count 1 = .ok (.tableswitch 75 0 4 #[35, 43, 51, 59, 67], 35) := by decide +kernel
theorem dX7_count_36 : decode cX7_count 36 = .ok (.aload_n 0, 1) := by decide +kernel
theorem dX7_count_37 : decode cX7_count 37 = .ok (.getfield 12, 3) := by decide +kernel
theorem dX7_count_40 : decode cX7_count 40 = .ok (.getfield 68, 3) := by decide +kernel
theorem dX7_count_43 : decode cX7_count 43 = .ok (.ireturn, 1) := by decide +kernel
theorem dX7_count_44 : decode cX7_count 44 = .ok (.aload_n 0, 1) := by decide +kernel
theorem dX7_count_45 : decode cX7_count 45 = .ok (.getfield 12, 3) := by decide +kernel
theorem dX7_count_48 : decode cX7_count 48 = .ok (.getfield 90, 3) := by decide +kernel
theorem dX7_count_51 : decode cX7_count 51 = .ok (.ireturn, 1) := by decide +kernel
theorem dX7_count_52 : decode cX7_count 52 = .ok (.aload_n 0, 1) := by decide +kernel
theorem dX7_count_53 : decode cX7_count 53 = .ok (.getfield 12, 3) := by decide +kernel
theorem dX7_count_56 : decode cX7_count 56 = .ok (.invokevirtual 131, 3) := by decide +kernel
theorem dX7_count_59 : decode cX7_count 59 = .ok (.ireturn, 1) := by decide +kernel
theorem dX7_count_60 : decode cX7_count 60 = .ok (.aload_n 0, 1) := by decide +kernel
theorem dX7_count_61 : decode cX7_count 61 = .ok (.getfield 12, 3) := by decide +kernel
theorem dX7_count_64 : decode cX7_count 64 = .ok (.getfield 135, 3) := by decide +kernel
theorem dX7_count_67 : decode cX7_count 67 = .ok (.ireturn, 1) := by decide +kernel
theorem dX7_count_68 : decode cX7_count 68 = .ok (.aload_n 0, 1) := by decide +kernel
theorem dX7_count_69 : decode cX7_count 69 = .ok (.getfield 39, 3) := by decide +kernel
theorem dX7_count_72 : decode cX7_count 72 = .ok (.getfield 138, 3) := by decide +kernel
theorem dX7_count_75 : decode cX7_count 75 = .ok (.ireturn, 1) := by decide +kernel
theorem dX7_count_76 : decode cX7_count 76 = .ok (.bipush (-2), 2) := by decide +kernel
theorem dX7_count_78 : decode cX7_count 78 = .ok (.ireturn, 1) := by decide +kernel
def f_X7_count (N : Nat) (x1 : Int32) (M : Mem) : Option (Int32) := if x1 = 0 then (some (M.1 1 0)) else if x1 = 1 then (some (M.1 1 1)) else if x1 = 2 then (bd (f_X1_allGaps N 1 M) (fun v4 => some v4)) else if x1 = 3 then (some (M.1 1 2)) else if x1 = 4 then (some (M.1 31 0)) else (some (-2 : Int32))
set_option maxRecDepth 100000 in
set_option maxHeartbeats 4000000 in
theorem c_X7_count {l : Launch} {D : va_G} {ac : Nat → ClassId} {A : Nat → Prop} {ad : Nat → Nat} {rest : va_W} (N : Nat) (x1 : Int32)  (M : Mem) (r0 : Int32) (hf : f_X7_count N x1 M = some r0) : CtI l D ac A tabX ad rest yX7_count cX7_count 2 .int 4 [.ref (ad 0), .int x1] M r0 M := by
  refine ct_ofI (own := RX7) (by decide +kernel) rfl (Nat.le_of_ble_eq_true rfl) ?_
  intro p e s m args below meth c C
  unfold f_X7_count at hf
  refine a_L (L' := [(0, .ref (ad 0)), (1, .int x1)]) rfl ?_
  refine a_iload_n (pc := 0) C dX7_count_0 1 rfl ?_
  by_cases hs1 : x1 = 0
  · rw [if_pos hs1] at hf
    refine a_tabIn (pc := 1) (off := 35) 36 C dX7_count_1 (by rw [hs1]; decide) (by rw [hs1]; decide) (by rw [hs1]; rfl) (by decide) ?_
    refine a_aload_n (pc := 36) C dX7_count_36 0 rfl ?_
    refine a_getR (pc := 37) C dX7_count_37 fl_X7_12 tx_0 rfl ?_
    refine a_getI (pc := 40) C dX7_count_40 fl_X7_68 net_1.1 rfl ?_
    exact a_iret (pc := 43) C dX7_count_43 (Option.some.inj hf) rfl
  · rw [if_neg hs1] at hf
    by_cases hs2 : x1 = 1
    · rw [if_pos hs2] at hf
      refine a_tabIn (pc := 1) (off := 43) 44 C dX7_count_1 (by rw [hs2]; decide) (by rw [hs2]; decide) (by rw [hs2]; rfl) (by decide) ?_
      refine a_aload_n (pc := 44) C dX7_count_44 0 rfl ?_
      refine a_getR (pc := 45) C dX7_count_45 fl_X7_12 tx_0 rfl ?_
      refine a_getI (pc := 48) C dX7_count_48 fl_X7_90 net_1.1 rfl ?_
      exact a_iret (pc := 51) C dX7_count_51 (Option.some.inj hf) rfl
    · rw [if_neg hs2] at hf
      by_cases hs3 : x1 = 2
      · rw [if_pos hs3] at hf
        refine a_tabIn (pc := 1) (off := 51) 52 C dX7_count_1 (by rw [hs3]; decide) (by rw [hs3]; decide) (by rw [hs3]; rfl) (by decide) ?_
        refine a_aload_n (pc := 52) C dX7_count_52 0 rfl ?_
        refine a_getR (pc := 53) C dX7_count_53 fl_X7_12 tx_0 rfl ?_
        refine a_callV_Ir (pc := 56) (d' := 3) C dX7_count_56 ml_X7_131 mc_X1_allGaps mv_X1_allGaps net_1.1 rfl [] rfl (Nat.le_of_ble_eq_true rfl) (Nat.le_of_ble_eq_true rfl) rfl (Nat.le_of_ble_eq_true rfl) (fun r h => c_X1_allGaps N 1 net_1 _  r h) hf (fun v4 hf => ?_)
        exact a_iret (pc := 59) C dX7_count_59 (Option.some.inj hf) rfl
      · rw [if_neg hs3] at hf
        by_cases hs6 : x1 = 3
        · rw [if_pos hs6] at hf
          refine a_tabIn (pc := 1) (off := 59) 60 C dX7_count_1 (by rw [hs6]; decide) (by rw [hs6]; decide) (by rw [hs6]; rfl) (by decide) ?_
          refine a_aload_n (pc := 60) C dX7_count_60 0 rfl ?_
          refine a_getR (pc := 61) C dX7_count_61 fl_X7_12 tx_0 rfl ?_
          refine a_getI (pc := 64) C dX7_count_64 fl_X7_135 net_1.1 rfl ?_
          exact a_iret (pc := 67) C dX7_count_67 (Option.some.inj hf) rfl
        · rw [if_neg hs6] at hf
          by_cases hs7 : x1 = 4
          · rw [if_pos hs7] at hf
            refine a_tabIn (pc := 1) (off := 67) 68 C dX7_count_1 (by rw [hs7]; decide) (by rw [hs7]; decide) (by rw [hs7]; rfl) (by decide) ?_
            refine a_aload_n (pc := 68) C dX7_count_68 0 rfl ?_
            refine a_getR (pc := 69) C dX7_count_69 fl_X7_39 tx_0 rfl ?_
            refine a_getI (pc := 72) C dX7_count_72 fl_X7_138 tx_31 rfl ?_
            exact a_iret (pc := 75) C dX7_count_75 (Option.some.inj hf) rfl
          · rw [if_neg hs7] at hf
            refine a_tabOut (pc := 1) 76 C dX7_count_1 (by have nhs1 := ne_toInt hs1 (k := 0) (by decide); have nhs2 := ne_toInt hs2 (k := 1) (by decide); have nhs3 := ne_toInt hs3 (k := 2) (by decide); have nhs6 := ne_toInt hs6 (k := 3) (by decide); have nhs7 := ne_toInt hs7 (k := 4) (by decide); omega) (by decide) ?_
            refine a_bipush (pc := 76) (v := (-2)) C dX7_count_76 (by decide) ?_
            exact a_iret (pc := 78) C dX7_count_78 (Option.some.inj hf) rfl
theorem dX7_judge_0 : decode cX7_judge 0 = .ok (.aload_n 0, 1) := by decide +kernel
theorem dX7_judge_1 : decode cX7_judge 1 = .ok (.iload_n 1, 1) := by decide +kernel
theorem dX7_judge_2 : decode cX7_judge 2 = .ok (.iload_n 2, 1) := by decide +kernel
theorem dX7_judge_3 : decode cX7_judge 3 = .ok (.iload_n 3, 1) := by decide +kernel
theorem dX7_judge_4 : decode cX7_judge 4 = .ok (.invokevirtual 220, 3) := by decide +kernel
theorem dX7_judge_7 : decode cX7_judge 7 = .ok (.istore 4, 2) := by decide +kernel
theorem dX7_judge_9 : decode cX7_judge 9 = .ok (.iload 4, 2) := by decide +kernel
theorem dX7_judge_11 : decode cX7_judge 11 = .ok (.ifCond .ge 8, 3) := by decide +kernel
theorem dX7_judge_14 : decode cX7_judge 14 = .ok (.iload 4, 2) := by decide +kernel
theorem dX7_judge_16 : decode cX7_judge 16 = .ok (.goto 15, 3) := by decide +kernel
theorem dX7_judge_19 : decode cX7_judge 19 = .ok (.aload_n 0, 1) := by decide +kernel
theorem dX7_judge_20 : decode cX7_judge 20 = .ok (.aload_n 0, 1) := by decide +kernel
theorem dX7_judge_21 : decode cX7_judge 21 = .ok (.getfield 59, 3) := by decide +kernel
theorem dX7_judge_24 : decode cX7_judge 24 = .ok (.iload_n 1, 1) := by decide +kernel
theorem dX7_judge_25 : decode cX7_judge 25 = .ok (.aaload, 1) := by decide +kernel
theorem dX7_judge_26 : decode cX7_judge 26 = .ok (.iload_n 2, 1) := by decide +kernel
theorem dX7_judge_27 : decode cX7_judge 27 = .ok (.iload_n 3, 1) := by decide +kernel
theorem dX7_judge_28 : decode cX7_judge 28 = .ok (.invokevirtual 224, 3) := by decide +kernel
theorem dX7_judge_31 : decode cX7_judge 31 = .ok (.ireturn, 1) := by decide +kernel
def f_X7_judge (N : Nat) (x1 : Int32) (x2 : Int32) (x3 : Int32) (M : Mem) : Option (Int32) := bd (f_X7_refusalOf N x1 x2 x3 M) (fun v1 => if 0 ≤ v1 then (ck (inb x1 4) (bd (f_X7_firstWrong N (sheetC x1.toNatClampNeg) x2 x3 M) (fun v4 => some v4))) else (some v1))
set_option maxRecDepth 100000 in
set_option maxHeartbeats 4000000 in
theorem c_X7_judge {l : Launch} {D : va_G} {ac : Nat → ClassId} {A : Nat → Prop} {ad : Nat → Nat} {rest : va_W} (N : Nat) (x1 : Int32) (x2 : Int32) (x3 : Int32)  (M : Mem) (r0 : Int32) (hf : f_X7_judge N x1 x2 x3 M = some r0) : CtI l D ac A tabX ad rest yX7_judge cX7_judge 5 .int 4 [.ref (ad 0), .int x1, .int x2, .int x3] M r0 M := by
  refine ct_ofI (own := RX7) (by decide +kernel) rfl (Nat.le_of_ble_eq_true rfl) ?_
  intro p e s m args below meth c C
  unfold f_X7_judge at hf
  refine a_L (L' := [(0, .ref (ad 0)), (1, .int x1), (2, .int x2), (3, .int x3)]) rfl ?_
  refine a_aload_n (pc := 0) C dX7_judge_0 0 rfl ?_
  refine a_iload_n (pc := 1) C dX7_judge_1 1 rfl ?_
  refine a_iload_n (pc := 2) C dX7_judge_2 2 rfl ?_
  refine a_iload_n (pc := 3) C dX7_judge_3 3 rfl ?_
  refine a_callV_Ir (pc := 4) (d' := 3) C dX7_judge_4 ml_X7_220 mc_X7_refusalOf mv_X7_refusalOf tx_0 rfl [.int x1, .int x2, .int x3] rfl (Nat.le_of_ble_eq_true rfl) (Nat.le_of_ble_eq_true rfl) rfl (Nat.le_of_ble_eq_true rfl) (fun r h => c_X7_refusalOf N x1 x2 x3  _  r h) hf (fun v1 hf => ?_)
  refine a_istore (pc := 7) [(4, .int v1), (0, .ref (ad 0)), (1, .int x1), (2, .int x2), (3, .int x3)] C dX7_judge_7 (by decide) rfl ?_
  refine a_iload (pc := 9) C dX7_judge_9 0 rfl ?_
  refine a_if_ge (pc := 11) 19 C dX7_judge_11 (by decide) hf (fun hf => ?_) (fun hf => ?_)
  · refine a_aload_n (pc := 19) C dX7_judge_19 1 rfl ?_
    refine a_aload_n (pc := 20) C dX7_judge_20 1 rfl ?_
    refine a_getR (pc := 21) C dX7_judge_21 fl_X7_59 tx_0 rfl ?_
    refine a_iload_n (pc := 24) C dX7_judge_24 2 rfl ?_
    have hx3 := (ck_some hf).1
    refine a_aald (pc := 25) C dX7_judge_25 tx_39 rfl hf (fun hf => ?_)
    refine a_iload_n (pc := 26) C dX7_judge_26 3 rfl ?_
    refine a_iload_n (pc := 27) C dX7_judge_27 4 rfl ?_
    refine a_callV_Ir (pc := 28) (d' := 3) C dX7_judge_28 ml_X7_224 mc_X7_firstWrong mv_X7_firstWrong tx_0 rfl [.ref (ad (sheetC x1.toNatClampNeg)), .int x2, .int x3] rfl (Nat.le_of_ble_eq_true rfl) (Nat.le_of_ble_eq_true rfl) rfl (Nat.le_of_ble_eq_true rfl) (fun r h => c_X7_firstWrong N (sheetC x1.toNatClampNeg) x2 x3 (sheet_at hx3) _  r h) hf (fun v4 hf => ?_)
    exact a_iret (pc := 31) C dX7_judge_31 (Option.some.inj hf) rfl
  · refine a_iload (pc := 14) C dX7_judge_14 0 rfl ?_
    refine a_goto (pc := 16) 31 C dX7_judge_16 (by decide) ?_
    exact a_iret (pc := 31) C dX7_judge_31 (Option.some.inj hf) rfl
theorem dX7_does_0 : decode cX7_does 0 = .ok (.iload_n 2, 1) := by decide +kernel
theorem dX7_does_1 : decode cX7_does 1 = .ok (.iconst 0, 1) := by decide +kernel
theorem dX7_does_2 : decode cX7_does 2 = .ok (.iconst 4, 1) := by decide +kernel
theorem dX7_does_3 : decode cX7_does 3 = .ok (.invokestatic 64, 3) := by decide +kernel
theorem dX7_does_6 : decode cX7_does 6 = .ok (.ifCond .ne 6, 3) := by decide +kernel
theorem dX7_does_9 : decode cX7_does 9 = .ok (.bipush (-2), 2) := by decide +kernel
theorem dX7_does_11 : decode cX7_does 11 = .ok (.ireturn, 1) := by decide +kernel
theorem dX7_does_12 : decode cX7_does 12 = .ok (.aload_n 0, 1) := by decide +kernel
theorem dX7_does_13 : decode cX7_does 13 = .ok (.iload_n 1, 1) := by decide +kernel
theorem dX7_does_14 : decode cX7_does 14 = .ok (.iload_n 3, 1) := by decide +kernel
theorem dX7_does_15 : decode cX7_does 15 = .ok (.invokevirtual 279, 3) := by decide +kernel
theorem dX7_does_18 : decode cX7_does 18 = .ok (.istore 4, 2) := by decide +kernel
theorem dX7_does_20 : decode cX7_does 20 = .ok (.iload 4, 2) := by decide +kernel
theorem dX7_does_22 : decode cX7_does 22 = .ok (.ifCond .ge 6, 3) := by decide +kernel
theorem dX7_does_25 : decode cX7_does 25 = .ok (.iload 4, 2) := by decide +kernel
theorem dX7_does_27 : decode cX7_does 27 = .ok (.ireturn, 1) := by decide +kernel
theorem dX7_does_28 : decode cX7_does 28 = .ok (.aload_n 0, 1) := by decide +kernel
theorem dX7_does_29 : decode cX7_does 29 = .ok (.getfield 52, 3) := by decide +kernel
theorem dX7_does_32 : decode cX7_does 32 = .ok (.iload_n 1, 1) := by decide +kernel
theorem dX7_does_33 : decode cX7_does 33 = .ok (.aaload, 1) := by decide +kernel
theorem dX7_does_34 : decode cX7_does 34 = .ok (.astore 5, 2) := by decide +kernel
theorem dX7_does_36 : decode cX7_does 36 = .ok (.aload_n 0, 1) := by decide +kernel
theorem dX7_does_37 : decode cX7_does 37 = .ok (.getfield 52, 3) := by decide +kernel
theorem dX7_does_40 : decode cX7_does 40 = .ok (.iload_n 3, 1) := by decide +kernel
theorem dX7_does_41 : decode cX7_does 41 = .ok (.aaload, 1) := by decide +kernel
theorem dX7_does_42 : decode cX7_does 42 = .ok (.astore 6, 2) := by decide +kernel
theorem dX7_does_44 : decode cX7_does 44 = .ok (.iload_n 2, 1) := by decide +kernel
theorem dX7_does_45 : decode cX7_does 45 = .ok (.iconst 3, 1) := by decide +kernel
theorem dX7_does_46 : decode cX7_does 46 = .ok (.if_icmp .ne 16, 3) := by decide +kernel
theorem dX7_does_49 : decode cX7_does 49 = .ok (.aload 6, 2) := by decide +kernel
theorem dX7_does_51 : decode cX7_does 51 = .ok (.getfield 282, 3) := by decide +kernel
theorem dX7_does_54 : decode cX7_does 54 = .ok (.lconst 0, 1) := by decide +kernel
theorem dX7_does_55 : decode cX7_does 55 = .ok (.lcmp, 1) := by decide +kernel
theorem dX7_does_56 : decode cX7_does 56 = .ok (.ifCond .ne 6, 3) := by decide +kernel
theorem dX7_does_59 : decode cX7_does 59 = .ok (.bipush (-15), 2) := by decide +kernel
theorem dX7_does_61 : decode cX7_does 61 = .ok (.ireturn, 1) := by decide +kernel
theorem dX7_does_62 : decode cX7_does 62 = .ok (.aload_n 0, 1) := by decide +kernel
theorem dX7_does_63 : decode cX7_does 63 = .ok (.getfield 46, 3) := by decide +kernel
theorem dX7_does_66 : decode cX7_does 66 = .ok (.iconst 0, 1) := by decide +kernel
theorem dX7_does_67 : decode cX7_does 67 = .ok (.putfield 285, 3) := by decide +kernel
theorem dX7_does_70 : decode cX7_does 70 = .ok (.aload_n 0, 1) := by decide +kernel
theorem dX7_does_71 : decode cX7_does 71 = .ok (.getfield 46, 3) := by decide +kernel
theorem dX7_does_74 : decode cX7_does 74 = .ok (.aload 5, 2) := by decide +kernel
theorem dX7_does_76 : decode cX7_does 76 = .ok (.iload_n 2, 1) := by decide +kernel
theorem dX7_does_77 : decode cX7_does 77 = .ok (.aload 6, 2) := by decide +kernel
theorem dX7_does_79 : decode cX7_does 79 = .ok (.invokevirtual 289, 3) := by decide +kernel
theorem dX7_does_82 : decode cX7_does 82 = .ok (.lstore 7, 2) := by decide +kernel
theorem dX7_does_84 : decode cX7_does 84 = .ok (.aload_n 0, 1) := by decide +kernel
theorem dX7_does_85 : decode cX7_does 85 = .ok (.getfield 46, 3) := by decide +kernel
theorem dX7_does_88 : decode cX7_does 88 = .ok (.aload 5, 2) := by decide +kernel
theorem dX7_does_90 : decode cX7_does 90 = .ok (.iload_n 2, 1) := by decide +kernel
theorem dX7_does_91 : decode cX7_does 91 = .ok (.aload 6, 2) := by decide +kernel
theorem dX7_does_93 : decode cX7_does 93 = .ok (.invokevirtual 293, 3) := by decide +kernel
theorem dX7_does_96 : decode cX7_does 96 = .ok (.lstore 9, 2) := by decide +kernel
theorem dX7_does_98 : decode cX7_does 98 = .ok (.aload_n 0, 1) := by decide +kernel
theorem dX7_does_99 : decode cX7_does 99 = .ok (.getfield 46, 3) := by decide +kernel
theorem dX7_does_102 : decode cX7_does 102 = .ok (.getfield 285, 3) := by decide +kernel
theorem dX7_does_105 : decode cX7_does 105 = .ok (.ifCond .eq 8, 3) := by decide +kernel
theorem dX7_does_108 : decode cX7_does 108 = .ok (.bipush (-5), 2) := by decide +kernel
theorem dX7_does_110 : decode cX7_does 110 = .ok (.goto 12, 3) := by decide +kernel
theorem dX7_does_113 : decode cX7_does 113 = .ok (.aload 5, 2) := by decide +kernel
theorem dX7_does_115 : decode cX7_does 115 = .ok (.lload 7, 2) := by decide +kernel
theorem dX7_does_117 : decode cX7_does 117 = .ok (.lload 9, 2) := by decide +kernel
theorem dX7_does_119 : decode cX7_does 119 = .ok (.invokevirtual 260, 3) := by decide +kernel
theorem dX7_does_122 : decode cX7_does 122 = .ok (.ireturn, 1) := by decide +kernel
def f_X7_does (N : Nat) (x1 : Int32) (x2 : Int32) (x3 : Int32) (M : Mem) : Option (Int32 × Mem) := bd (f_X7_within N x2 (0 : Int32) (4 : Int32) M) (fun v1 => if v1 = 0 then (some ((-2 : Int32), M)) else (bd (f_X7_refusalOfFractions N x1 x3 M) (fun v3 => if 0 ≤ v3 then (ck (inb x1 4) (ck (inb x3 4) (jn (fun (a62 : Unit) => ck ((0 : Int32) = 0 ∨ (0 : Int32) = 1) (nm (setI M 33 0 (0 : Int32)) (fun M7 => bd (f_X3_aboveOf N (holdC x1.toNatClampNeg) x2 (holdC x3.toNatClampNeg) M7) (fun w10 => bd (f_X3_belowOf N (holdC x1.toNatClampNeg) x2 (holdC x3.toNatClampNeg) w10.2) (fun w13 => if (w13.2.1 33 0) = 0 then (bd (f_X0_takeFraction N (holdC x1.toNatClampNeg) w10.1 w13.1 w13.2) (fun w16 => some (w16.1, w16.2))) else (some ((-5 : Int32), w13.2))))))) (fun (k62 : Unit → Option (Int32 × Mem)) => if x2 = (3 : Int32) then (if (lg_cmp (M.2 (holdC x3.toNatClampNeg) 1) (0 : Int64)) = 0 then (some ((-15 : Int32), M)) else (k62 ())) else (k62 ()))))) else (some (v3, M)))))
set_option maxRecDepth 100000 in
set_option maxHeartbeats 4000000 in
theorem c_X7_does {l : Launch} {D : va_G} {ac : Nat → ClassId} {A : Nat → Prop} {ad : Nat → Nat} {rest : va_W} (N : Nat) (x1 : Int32) (x2 : Int32) (x3 : Int32)  (M : Mem) (r0 : Int32) (M0 : Mem) (hf : f_X7_does N x1 x2 x3 M = some (r0, M0)) : CtI l D ac A tabX ad rest yX7_does cX7_does 11 .int 4 [.ref (ad 0), .int x1, .int x2, .int x3] M r0 M0 := by
  refine ct_ofI (own := RX7) (by decide +kernel) rfl (Nat.le_of_ble_eq_true rfl) ?_
  intro p e s m args below meth c C
  unfold f_X7_does at hf
  refine a_L (L' := [(0, .ref (ad 0)), (1, .int x1), (2, .int x2), (3, .int x3)]) rfl ?_
  refine a_iload_n (pc := 0) C dX7_does_0 2 rfl ?_
  refine a_iconst (pc := 1) (v := 0) C dX7_does_1 (by decide) ?_
  refine a_iconst (pc := 2) (v := 4) C dX7_does_2 (by decide) ?_
  refine a_callS_Ir (pc := 3) (d' := 1) C dX7_does_3 ml_X7_64 mc_X7_within ms_X7_within [.int x2, .int (0 : Int32), .int (4 : Int32)] rfl (Nat.le_of_ble_eq_true rfl) (Nat.le_of_ble_eq_true rfl) rfl (Nat.le_of_ble_eq_true rfl) (fun r h => c_X7_within N x2 (0 : Int32) (4 : Int32)  _  r h) hf (fun v1 hf => ?_)
  refine a_if_ne (pc := 6) 12 C dX7_does_6 (by decide) hf (fun hf => ?_) (fun hf => ?_)
  · refine a_aload_n (pc := 12) C dX7_does_12 0 rfl ?_
    refine a_iload_n (pc := 13) C dX7_does_13 1 rfl ?_
    refine a_iload_n (pc := 14) C dX7_does_14 3 rfl ?_
    refine a_callV_Ir (pc := 15) (d' := 3) C dX7_does_15 ml_X7_279 mc_X7_refusalOfFractions mv_X7_refusalOfFractions tx_0 rfl [.int x1, .int x3] rfl (Nat.le_of_ble_eq_true rfl) (Nat.le_of_ble_eq_true rfl) rfl (Nat.le_of_ble_eq_true rfl) (fun r h => c_X7_refusalOfFractions N x1 x3  _  r h) hf (fun v3 hf => ?_)
    refine a_istore (pc := 18) [(4, .int v3), (0, .ref (ad 0)), (1, .int x1), (2, .int x2), (3, .int x3)] C dX7_does_18 (by decide) rfl ?_
    refine a_iload (pc := 20) C dX7_does_20 0 rfl ?_
    refine a_if_ge (pc := 22) 28 C dX7_does_22 (by decide) hf (fun hf => ?_) (fun hf => ?_)
    · refine a_aload_n (pc := 28) C dX7_does_28 1 rfl ?_
      refine a_getR (pc := 29) C dX7_does_29 fl_X7_52 tx_0 rfl ?_
      refine a_iload_n (pc := 32) C dX7_does_32 2 rfl ?_
      have hx5 := (ck_some hf).1
      refine a_aald (pc := 33) C dX7_does_33 tx_34 rfl hf (fun hf => ?_)
      refine a_astore (pc := 34) [(5, .ref (ad (holdC x1.toNatClampNeg))), (4, .int v3), (0, .ref (ad 0)), (1, .int x1), (2, .int x2), (3, .int x3)] C dX7_does_34 (by decide) rfl ?_
      refine a_aload_n (pc := 36) C dX7_does_36 2 rfl ?_
      refine a_getR (pc := 37) C dX7_does_37 fl_X7_52 tx_0 rfl ?_
      refine a_iload_n (pc := 40) C dX7_does_40 5 rfl ?_
      have hx6 := (ck_some hf).1
      refine a_aald (pc := 41) C dX7_does_41 tx_34 rfl hf (fun hf => ?_)
      refine a_astore (pc := 42) [(6, .ref (ad (holdC x3.toNatClampNeg))), (5, .ref (ad (holdC x1.toNatClampNeg))), (4, .int v3), (0, .ref (ad 0)), (1, .int x1), (2, .int x2), (3, .int x3)] C dX7_does_42 (by decide) rfl ?_
      refine a_iload_n (pc := 44) C dX7_does_44 5 rfl ?_
      refine a_iconst (pc := 45) (v := 3) C dX7_does_45 (by decide) ?_
      refine a_jn 62 (fun a62 : Unit => [(0, .ref (ad 0)), (2, .int x2), (5, .ref (ad (holdC x1.toNatClampNeg))), (6, .ref (ad (holdC x3.toNatClampNeg)))]) (fun a62 : Unit => []) (fun a62 : Unit => M) hf (fun a62 hf => ?_) (fun k62 hk62 hf => ?_)
      · refine a_aload_n (pc := 62) C dX7_does_62 0 rfl ?_
        refine a_getR (pc := 63) C dX7_does_63 fl_X7_46 tx_0 rfl ?_
        refine a_iconst (pc := 66) (v := 0) C dX7_does_66 (by decide) ?_
        refine a_putZ (pc := 67) C dX7_does_67 fl_X7_285 tx_33 rfl hf (fun M7 hf => ?_)
        refine a_aload_n (pc := 70) C dX7_does_70 0 rfl ?_
        refine a_getR (pc := 71) C dX7_does_71 fl_X7_46 tx_0 rfl ?_
        refine a_aload (pc := 74) C dX7_does_74 2 rfl ?_
        refine a_iload_n (pc := 76) C dX7_does_76 1 rfl ?_
        refine a_aload (pc := 77) C dX7_does_77 3 rfl ?_
        refine a_callV_J (pc := 79) (d' := 2) C dX7_does_79 ml_X7_289 mc_X3_aboveOf mv_X3_aboveOf tx_33 rfl [.ref (ad (holdC x1.toNatClampNeg)), .int x2, .ref (ad (holdC x3.toNatClampNeg))] rfl (Nat.le_of_ble_eq_true rfl) (Nat.le_of_ble_eq_true rfl) rfl (Nat.le_of_ble_eq_true rfl) (fun r M' h => c_X3_aboveOf N (holdC x1.toNatClampNeg) x2 (holdC x3.toNatClampNeg) (hold_at hx5) (hold_at hx6) _  r M' h) hf (fun v8 M9 hf => ?_)
        refine a_lstore (pc := 82) [(7, .long v8), (0, .ref (ad 0)), (2, .int x2), (5, .ref (ad (holdC x1.toNatClampNeg))), (6, .ref (ad (holdC x3.toNatClampNeg)))] C dX7_does_82 (by decide) rfl ?_
        refine a_aload_n (pc := 84) C dX7_does_84 1 rfl ?_
        refine a_getR (pc := 85) C dX7_does_85 fl_X7_46 tx_0 rfl ?_
        refine a_aload (pc := 88) C dX7_does_88 3 rfl ?_
        refine a_iload_n (pc := 90) C dX7_does_90 2 rfl ?_
        refine a_aload (pc := 91) C dX7_does_91 4 rfl ?_
        refine a_callV_J (pc := 93) (d' := 2) C dX7_does_93 ml_X7_293 mc_X3_belowOf mv_X3_belowOf tx_33 rfl [.ref (ad (holdC x1.toNatClampNeg)), .int x2, .ref (ad (holdC x3.toNatClampNeg))] rfl (Nat.le_of_ble_eq_true rfl) (Nat.le_of_ble_eq_true rfl) rfl (Nat.le_of_ble_eq_true rfl) (fun r M' h => c_X3_belowOf N (holdC x1.toNatClampNeg) x2 (holdC x3.toNatClampNeg) (hold_at hx5) (hold_at hx6) _  r M' h) hf (fun v11 M12 hf => ?_)
        refine a_lstore (pc := 96) [(9, .long v11), (7, .long v8), (0, .ref (ad 0)), (2, .int x2), (5, .ref (ad (holdC x1.toNatClampNeg))), (6, .ref (ad (holdC x3.toNatClampNeg)))] C dX7_does_96 (by decide) rfl ?_
        refine a_aload_n (pc := 98) C dX7_does_98 2 rfl ?_
        refine a_getR (pc := 99) C dX7_does_99 fl_X7_46 tx_0 rfl ?_
        refine a_getI (pc := 102) C dX7_does_102 fl_X7_285 tx_33 rfl ?_
        refine a_if_eq (pc := 105) 113 C dX7_does_105 (by decide) hf (fun hf => ?_) (fun hf => ?_)
        · refine a_aload (pc := 113) C dX7_does_113 4 rfl ?_
          refine a_lload (pc := 115) C dX7_does_115 1 rfl ?_
          refine a_lload (pc := 117) C dX7_does_117 0 rfl ?_
          refine a_callV_I (pc := 119) (d' := 2) C dX7_does_119 ml_X7_260 mc_X0_takeFraction mv_X0_takeFraction (hold_at hx5) rfl [.long v8, .long v11] rfl (Nat.le_of_ble_eq_true rfl) (Nat.le_of_ble_eq_true rfl) rfl (Nat.le_of_ble_eq_true rfl) (fun r M' h => c_X0_takeFraction N (holdC x1.toNatClampNeg) v8 v11 (hold_at hx5) _  r M' h) hf (fun v14 M15 hf => ?_)
          exact a_iret (pc := 122) C dX7_does_122 (so_1 hf) (so_2 hf)
        · refine a_bipush (pc := 108) (v := (-5)) C dX7_does_108 (by decide) ?_
          refine a_goto (pc := 110) 122 C dX7_does_110 (by decide) ?_
          exact a_iret (pc := 122) C dX7_does_122 (so_1 hf) (so_2 hf)
      · refine a_icmp_ne (pc := 46) 62 C dX7_does_46 (by decide) hf (fun hf => ?_) (fun hf => ?_)
        · exact a_sub [3, 5, 1, 0] rfl (hk62 () hf)
        · refine a_aload (pc := 49) C dX7_does_49 0 rfl ?_
          refine a_getJ (pc := 51) C dX7_does_51 fl_X7_282 (hold_at hx6) rfl ?_
          refine a_lconst (pc := 54) (v := 0) C dX7_does_54 (by decide) ?_
          refine a_lcmp (pc := 55) C dX7_does_55 ?_
          refine a_if_ne (pc := 56) 62 C dX7_does_56 (by decide) hf (fun hf => ?_) (fun hf => ?_)
          · exact a_sub [3, 5, 1, 0] rfl (hk62 () hf)
          · refine a_bipush (pc := 59) (v := (-15)) C dX7_does_59 (by decide) ?_
            exact a_iret (pc := 61) C dX7_does_61 (so_1 hf) (so_2 hf)
    · refine a_iload (pc := 25) C dX7_does_25 0 rfl ?_
      exact a_iret (pc := 27) C dX7_does_27 (so_1 hf) (so_2 hf)
  · refine a_bipush (pc := 9) (v := (-2)) C dX7_does_9 (by decide) ?_
    exact a_iret (pc := 11) C dX7_does_11 (so_1 hf) (so_2 hf)
theorem dX7_compare_0 : decode cX7_compare 0 = .ok (.aload_n 0, 1) := by decide +kernel
theorem dX7_compare_1 : decode cX7_compare 1 = .ok (.iload_n 1, 1) := by decide +kernel
theorem dX7_compare_2 : decode cX7_compare 2 = .ok (.iload_n 2, 1) := by decide +kernel
theorem dX7_compare_3 : decode cX7_compare 3 = .ok (.invokevirtual 279, 3) := by decide +kernel
theorem dX7_compare_6 : decode cX7_compare 6 = .ok (.istore_n 3, 1) := by decide +kernel
theorem dX7_compare_7 : decode cX7_compare 7 = .ok (.iload_n 3, 1) := by decide +kernel
theorem dX7_compare_8 : decode cX7_compare 8 = .ok (.ifCond .ge 7, 3) := by decide +kernel
theorem dX7_compare_11 : decode cX7_compare 11 = .ok (.iload_n 3, 1) := by decide +kernel
theorem dX7_compare_12 : decode cX7_compare 12 = .ok (.goto 20, 3) := by decide +kernel
theorem dX7_compare_15 : decode cX7_compare 15 = .ok (.iconst 1, 1) := by decide +kernel
theorem dX7_compare_16 : decode cX7_compare 16 = .ok (.aload_n 0, 1) := by decide +kernel
theorem dX7_compare_17 : decode cX7_compare 17 = .ok (.getfield 52, 3) := by decide +kernel
theorem dX7_compare_20 : decode cX7_compare 20 = .ok (.iload_n 1, 1) := by decide +kernel
theorem dX7_compare_21 : decode cX7_compare 21 = .ok (.aaload, 1) := by decide +kernel
theorem dX7_compare_22 : decode cX7_compare 22 = .ok (.aload_n 0, 1) := by decide +kernel
theorem dX7_compare_23 : decode cX7_compare 23 = .ok (.getfield 52, 3) := by decide +kernel
theorem dX7_compare_26 : decode cX7_compare 26 = .ok (.iload_n 2, 1) := by decide +kernel
theorem dX7_compare_27 : decode cX7_compare 27 = .ok (.aaload, 1) := by decide +kernel
theorem dX7_compare_28 : decode cX7_compare 28 = .ok (.invokestatic 296, 3) := by decide +kernel
theorem dX7_compare_31 : decode cX7_compare 31 = .ok (.iadd, 1) := by decide +kernel
theorem dX7_compare_32 : decode cX7_compare 32 = .ok (.ireturn, 1) := by decide +kernel
def f_X7_compare (N : Nat) (x1 : Int32) (x2 : Int32) (M : Mem) : Option (Int32) := bd (f_X7_refusalOfFractions N x1 x2 M) (fun v1 => if 0 ≤ v1 then (ck (inb x1 4) (ck (inb x2 4) (bd (f_X7_order N (holdC x1.toNatClampNeg) (holdC x2.toNatClampNeg) M) (fun v5 => some ((1 : Int32) + v5))))) else (some v1))
set_option maxRecDepth 100000 in
set_option maxHeartbeats 4000000 in
theorem c_X7_compare {l : Launch} {D : va_G} {ac : Nat → ClassId} {A : Nat → Prop} {ad : Nat → Nat} {rest : va_W} (N : Nat) (x1 : Int32) (x2 : Int32)  (M : Mem) (r0 : Int32) (hf : f_X7_compare N x1 x2 M = some r0) : CtI l D ac A tabX ad rest yX7_compare cX7_compare 4 .int 4 [.ref (ad 0), .int x1, .int x2] M r0 M := by
  refine ct_ofI (own := RX7) (by decide +kernel) rfl (Nat.le_of_ble_eq_true rfl) ?_
  intro p e s m args below meth c C
  unfold f_X7_compare at hf
  refine a_L (L' := [(0, .ref (ad 0)), (1, .int x1), (2, .int x2)]) rfl ?_
  refine a_aload_n (pc := 0) C dX7_compare_0 0 rfl ?_
  refine a_iload_n (pc := 1) C dX7_compare_1 1 rfl ?_
  refine a_iload_n (pc := 2) C dX7_compare_2 2 rfl ?_
  refine a_callV_Ir (pc := 3) (d' := 3) C dX7_compare_3 ml_X7_279 mc_X7_refusalOfFractions mv_X7_refusalOfFractions tx_0 rfl [.int x1, .int x2] rfl (Nat.le_of_ble_eq_true rfl) (Nat.le_of_ble_eq_true rfl) rfl (Nat.le_of_ble_eq_true rfl) (fun r h => c_X7_refusalOfFractions N x1 x2  _  r h) hf (fun v1 hf => ?_)
  refine a_istore_n (pc := 6) [(3, .int v1), (0, .ref (ad 0)), (1, .int x1), (2, .int x2)] C dX7_compare_6 (by decide) rfl ?_
  refine a_iload_n (pc := 7) C dX7_compare_7 0 rfl ?_
  refine a_if_ge (pc := 8) 15 C dX7_compare_8 (by decide) hf (fun hf => ?_) (fun hf => ?_)
  · refine a_iconst (pc := 15) (v := 1) C dX7_compare_15 (by decide) ?_
    refine a_aload_n (pc := 16) C dX7_compare_16 1 rfl ?_
    refine a_getR (pc := 17) C dX7_compare_17 fl_X7_52 tx_0 rfl ?_
    refine a_iload_n (pc := 20) C dX7_compare_20 2 rfl ?_
    have hx3 := (ck_some hf).1
    refine a_aald (pc := 21) C dX7_compare_21 tx_34 rfl hf (fun hf => ?_)
    refine a_aload_n (pc := 22) C dX7_compare_22 1 rfl ?_
    refine a_getR (pc := 23) C dX7_compare_23 fl_X7_52 tx_0 rfl ?_
    refine a_iload_n (pc := 26) C dX7_compare_26 3 rfl ?_
    have hx4 := (ck_some hf).1
    refine a_aald (pc := 27) C dX7_compare_27 tx_34 rfl hf (fun hf => ?_)
    refine a_callS_Ir (pc := 28) (d' := 2) C dX7_compare_28 ml_X7_296 mc_X7_order ms_X7_order [.ref (ad (holdC x1.toNatClampNeg)), .ref (ad (holdC x2.toNatClampNeg))] rfl (Nat.le_of_ble_eq_true rfl) (Nat.le_of_ble_eq_true rfl) rfl (Nat.le_of_ble_eq_true rfl) (fun r h => c_X7_order N (holdC x1.toNatClampNeg) (holdC x2.toNatClampNeg) (hold_at hx3) (hold_at hx4) _  r h) hf (fun v5 hf => ?_)
    refine a_iadd (pc := 31) C dX7_compare_31 ?_
    exact a_iret (pc := 32) C dX7_compare_32 (Option.some.inj hf) rfl
  · refine a_iload_n (pc := 11) C dX7_compare_11 0 rfl ?_
    refine a_goto (pc := 12) 32 C dX7_compare_12 (by decide) ?_
    exact a_iret (pc := 32) C dX7_compare_32 (Option.some.inj hf) rfl
theorem dX7_refusalOfColouring_0 : decode cX7_refusalOfColouring 0 = .ok (.aload_n 0, 1) := by decide +kernel
theorem dX7_refusalOfColouring_1 : decode cX7_refusalOfColouring 1 = .ok (.iload_n 1, 1) := by decide +kernel
theorem dX7_refusalOfColouring_2 : decode cX7_refusalOfColouring 2 = .ok (.iload_n 2, 1) := by decide +kernel
theorem dX7_refusalOfColouring_3 : decode cX7_refusalOfColouring 3 = .ok (.iload_n 3, 1) := by decide +kernel
theorem dX7_refusalOfColouring_4 : decode cX7_refusalOfColouring 4 = .ok (.invokevirtual 220, 3) := by decide +kernel
theorem dX7_refusalOfColouring_7 : decode cX7_refusalOfColouring 7 = .ok (.istore 4, 2) := by decide +kernel
theorem dX7_refusalOfColouring_9 : decode cX7_refusalOfColouring 9 = .ok (.iload 4, 2) := by decide +kernel
theorem dX7_refusalOfColouring_11 : decode cX7_refusalOfColouring 11 = .ok (.ifCond .ge 6, 3) := by decide +kernel
theorem dX7_refusalOfColouring_14 : decode cX7_refusalOfColouring 14 = .ok (.iload 4, 2) := by decide +kernel
theorem dX7_refusalOfColouring_16 : decode cX7_refusalOfColouring 16 = .ok (.ireturn, 1) := by decide +kernel
theorem dX7_refusalOfColouring_17 : decode cX7_refusalOfColouring 17 = .ok (.aload_n 0, 1) := by decide +kernel
theorem dX7_refusalOfColouring_18 : decode cX7_refusalOfColouring 18 = .ok (.aload_n 0, 1) := by decide +kernel
theorem dX7_refusalOfColouring_19 : decode cX7_refusalOfColouring 19 = .ok (.getfield 59, 3) := by decide +kernel
theorem dX7_refusalOfColouring_22 : decode cX7_refusalOfColouring 22 = .ok (.iload_n 1, 1) := by decide +kernel
theorem dX7_refusalOfColouring_23 : decode cX7_refusalOfColouring 23 = .ok (.aaload, 1) := by decide +kernel
theorem dX7_refusalOfColouring_24 : decode cX7_refusalOfColouring 24 = .ok (.iload_n 2, 1) := by decide +kernel
theorem dX7_refusalOfColouring_25 : decode cX7_refusalOfColouring 25 = .ok (.iload_n 3, 1) := by decide +kernel
theorem dX7_refusalOfColouring_26 : decode cX7_refusalOfColouring 26 = .ok (.invokevirtual 224, 3) := by decide +kernel
theorem dX7_refusalOfColouring_29 : decode cX7_refusalOfColouring 29 = .ok (.iconst (-1), 1) := by decide +kernel
theorem dX7_refusalOfColouring_30 : decode cX7_refusalOfColouring 30 = .ok (.if_icmp .ne 7, 3) := by decide +kernel
theorem dX7_refusalOfColouring_33 : decode cX7_refusalOfColouring 33 = .ok (.iconst 0, 1) := by decide +kernel
theorem dX7_refusalOfColouring_34 : decode cX7_refusalOfColouring 34 = .ok (.goto 5, 3) := by decide +kernel
theorem dX7_refusalOfColouring_37 : decode cX7_refusalOfColouring 37 = .ok (.bipush (-3), 2) := by decide +kernel
theorem dX7_refusalOfColouring_39 : decode cX7_refusalOfColouring 39 = .ok (.ireturn, 1) := by decide +kernel
def f_X7_refusalOfColouring (N : Nat) (x1 : Int32) (x2 : Int32) (x3 : Int32) (M : Mem) : Option (Int32) := bd (f_X7_refusalOf N x1 x2 x3 M) (fun v1 => if 0 ≤ v1 then (ck (inb x1 4) (bd (f_X7_firstWrong N (sheetC x1.toNatClampNeg) x2 x3 M) (fun v4 => if v4 = (-1 : Int32) then (some (0 : Int32)) else (some (-3 : Int32))))) else (some v1))
set_option maxRecDepth 100000 in
set_option maxHeartbeats 4000000 in
theorem c_X7_refusalOfColouring {l : Launch} {D : va_G} {ac : Nat → ClassId} {A : Nat → Prop} {ad : Nat → Nat} {rest : va_W} (N : Nat) (x1 : Int32) (x2 : Int32) (x3 : Int32)  (M : Mem) (r0 : Int32) (hf : f_X7_refusalOfColouring N x1 x2 x3 M = some r0) : CtI l D ac A tabX ad rest yX7_refusalOfColouring cX7_refusalOfColouring 5 .int 4 [.ref (ad 0), .int x1, .int x2, .int x3] M r0 M := by
  refine ct_ofI (own := RX7) (by decide +kernel) rfl (Nat.le_of_ble_eq_true rfl) ?_
  intro p e s m args below meth c C
  unfold f_X7_refusalOfColouring at hf
  refine a_L (L' := [(0, .ref (ad 0)), (1, .int x1), (2, .int x2), (3, .int x3)]) rfl ?_
  refine a_aload_n (pc := 0) C dX7_refusalOfColouring_0 0 rfl ?_
  refine a_iload_n (pc := 1) C dX7_refusalOfColouring_1 1 rfl ?_
  refine a_iload_n (pc := 2) C dX7_refusalOfColouring_2 2 rfl ?_
  refine a_iload_n (pc := 3) C dX7_refusalOfColouring_3 3 rfl ?_
  refine a_callV_Ir (pc := 4) (d' := 3) C dX7_refusalOfColouring_4 ml_X7_220 mc_X7_refusalOf mv_X7_refusalOf tx_0 rfl [.int x1, .int x2, .int x3] rfl (Nat.le_of_ble_eq_true rfl) (Nat.le_of_ble_eq_true rfl) rfl (Nat.le_of_ble_eq_true rfl) (fun r h => c_X7_refusalOf N x1 x2 x3  _  r h) hf (fun v1 hf => ?_)
  refine a_istore (pc := 7) [(4, .int v1), (0, .ref (ad 0)), (1, .int x1), (2, .int x2), (3, .int x3)] C dX7_refusalOfColouring_7 (by decide) rfl ?_
  refine a_iload (pc := 9) C dX7_refusalOfColouring_9 0 rfl ?_
  refine a_if_ge (pc := 11) 17 C dX7_refusalOfColouring_11 (by decide) hf (fun hf => ?_) (fun hf => ?_)
  · refine a_aload_n (pc := 17) C dX7_refusalOfColouring_17 1 rfl ?_
    refine a_aload_n (pc := 18) C dX7_refusalOfColouring_18 1 rfl ?_
    refine a_getR (pc := 19) C dX7_refusalOfColouring_19 fl_X7_59 tx_0 rfl ?_
    refine a_iload_n (pc := 22) C dX7_refusalOfColouring_22 2 rfl ?_
    have hx3 := (ck_some hf).1
    refine a_aald (pc := 23) C dX7_refusalOfColouring_23 tx_39 rfl hf (fun hf => ?_)
    refine a_iload_n (pc := 24) C dX7_refusalOfColouring_24 3 rfl ?_
    refine a_iload_n (pc := 25) C dX7_refusalOfColouring_25 4 rfl ?_
    refine a_callV_Ir (pc := 26) (d' := 3) C dX7_refusalOfColouring_26 ml_X7_224 mc_X7_firstWrong mv_X7_firstWrong tx_0 rfl [.ref (ad (sheetC x1.toNatClampNeg)), .int x2, .int x3] rfl (Nat.le_of_ble_eq_true rfl) (Nat.le_of_ble_eq_true rfl) rfl (Nat.le_of_ble_eq_true rfl) (fun r h => c_X7_firstWrong N (sheetC x1.toNatClampNeg) x2 x3 (sheet_at hx3) _  r h) hf (fun v4 hf => ?_)
    refine a_iconst (pc := 29) (v := (-1)) C dX7_refusalOfColouring_29 (by decide) ?_
    refine a_icmp_ne (pc := 30) 37 C dX7_refusalOfColouring_30 (by decide) hf (fun hf => ?_) (fun hf => ?_)
    · refine a_bipush (pc := 37) (v := (-3)) C dX7_refusalOfColouring_37 (by decide) ?_
      exact a_iret (pc := 39) C dX7_refusalOfColouring_39 (Option.some.inj hf) rfl
    · refine a_iconst (pc := 33) (v := 0) C dX7_refusalOfColouring_33 (by decide) ?_
      refine a_goto (pc := 34) 39 C dX7_refusalOfColouring_34 (by decide) ?_
      exact a_iret (pc := 39) C dX7_refusalOfColouring_39 (Option.some.inj hf) rfl
  · refine a_iload (pc := 14) C dX7_refusalOfColouring_14 0 rfl ?_
    exact a_iret (pc := 16) C dX7_refusalOfColouring_16 (Option.some.inj hf) rfl
theorem dX8_rates_0 : decode cX8_rates 0 = .ok (.aload_n 0, 1) := by decide +kernel
theorem dX8_rates_1 : decode cX8_rates 1 = .ok (.iconst 0, 1) := by decide +kernel
theorem dX8_rates_2 : decode cX8_rates 2 = .ok (.putfield 203, 3) := by decide +kernel
theorem dX8_rates_5 : decode cX8_rates 5 = .ok (.aload_n 0, 1) := by decide +kernel
theorem dX8_rates_6 : decode cX8_rates 6 = .ok (.iconst 1, 1) := by decide +kernel
theorem dX8_rates_7 : decode cX8_rates 7 = .ok (.putfield 206, 3) := by decide +kernel
theorem dX8_rates_10 : decode cX8_rates 10 = .ok (.iconst 0, 1) := by decide +kernel
theorem dX8_rates_11 : decode cX8_rates 11 = .ok (.istore_n 3, 1) := by decide +kernel
theorem dX8_rates_12 : decode cX8_rates 12 = .ok (.iload_n 3, 1) := by decide +kernel
theorem dX8_rates_13 : decode cX8_rates 13 = .ok (.aload_n 0, 1) := by decide +kernel
theorem dX8_rates_14 : decode cX8_rates 14 = .ok (.getfield 197, 3) := by decide +kernel
theorem dX8_rates_17 : decode cX8_rates 17 = .ok (.if_icmp .ge 84, 3) := by decide +kernel
theorem dX8_rates_20 : decode cX8_rates 20 = .ok (.aload_n 0, 1) := by decide +kernel
theorem dX8_rates_21 : decode cX8_rates 21 = .ok (.getfield 41, 3) := by decide +kernel
theorem dX8_rates_24 : decode cX8_rates 24 = .ok (.iload_n 3, 1) := by decide +kernel
theorem dX8_rates_25 : decode cX8_rates 25 = .ok (.iaload, 1) := by decide +kernel
theorem dX8_rates_26 : decode cX8_rates 26 = .ok (.iload_n 2, 1) := by decide +kernel
theorem dX8_rates_27 : decode cX8_rates 27 = .ok (.iconst (-1), 1) := by decide +kernel
theorem dX8_rates_28 : decode cX8_rates 28 = .ok (.ixor, 1) := by decide +kernel
theorem dX8_rates_29 : decode cX8_rates 29 = .ok (.iand, 1) := by decide +kernel
theorem dX8_rates_30 : decode cX8_rates 30 = .ok (.ifCond .eq 6, 3) := by decide +kernel
theorem dX8_rates_33 : decode cX8_rates 33 = .ok (.goto 62, 3) := by decide +kernel
theorem dX8_rates_36 : decode cX8_rates 36 = .ok (.aload_n 0, 1) := by decide +kernel
theorem dX8_rates_37 : decode cX8_rates 37 = .ok (.iload_n 3, 1) := by decide +kernel
theorem dX8_rates_38 : decode cX8_rates 38 = .ok (.iload_n 1, 1) := by decide +kernel
theorem dX8_rates_39 : decode cX8_rates 39 = .ok (.invokevirtual 209, 3) := by decide +kernel
theorem dX8_rates_42 : decode cX8_rates 42 = .ok (.istore 4, 2) := by decide +kernel
theorem dX8_rates_44 : decode cX8_rates 44 = .ok (.iload 4, 2) := by decide +kernel
theorem dX8_rates_46 : decode cX8_rates 46 = .ok (.ifCond .ne 5, 3) := by decide +kernel
theorem dX8_rates_49 : decode cX8_rates 49 = .ok (.iconst 0, 1) := by decide +kernel
theorem dX8_rates_50 : decode cX8_rates 50 = .ok (.ireturn, 1) := by decide +kernel
theorem dX8_rates_51 : decode cX8_rates 51 = .ok (.aload_n 0, 1) := by decide +kernel
theorem dX8_rates_52 : decode cX8_rates 52 = .ok (.aload_n 0, 1) := by decide +kernel
theorem dX8_rates_53 : decode cX8_rates 53 = .ok (.getfield 41, 3) := by decide +kernel
theorem dX8_rates_56 : decode cX8_rates 56 = .ok (.iload_n 3, 1) := by decide +kernel
theorem dX8_rates_57 : decode cX8_rates 57 = .ok (.iaload, 1) := by decide +kernel
theorem dX8_rates_58 : decode cX8_rates 58 = .ok (.invokevirtual 212, 3) := by decide +kernel
theorem dX8_rates_61 : decode cX8_rates 61 = .ok (.istore 5, 2) := by decide +kernel
theorem dX8_rates_63 : decode cX8_rates 63 = .ok (.iload 5, 2) := by decide +kernel
theorem dX8_rates_65 : decode cX8_rates 65 = .ok (.aload_n 0, 1) := by decide +kernel
theorem dX8_rates_66 : decode cX8_rates 66 = .ok (.getfield 206, 3) := by decide +kernel
theorem dX8_rates_69 : decode cX8_rates 69 = .ok (.imul, 1) := by decide +kernel
theorem dX8_rates_70 : decode cX8_rates 70 = .ok (.aload_n 0, 1) := by decide +kernel
theorem dX8_rates_71 : decode cX8_rates 71 = .ok (.getfield 203, 3) := by decide +kernel
theorem dX8_rates_74 : decode cX8_rates 74 = .ok (.iload 4, 2) := by decide +kernel
theorem dX8_rates_76 : decode cX8_rates 76 = .ok (.imul, 1) := by decide +kernel
theorem dX8_rates_77 : decode cX8_rates 77 = .ok (.if_icmp .gt 6, 3) := by decide +kernel
theorem dX8_rates_80 : decode cX8_rates 80 = .ok (.goto 15, 3) := by decide +kernel
theorem dX8_rates_83 : decode cX8_rates 83 = .ok (.aload_n 0, 1) := by decide +kernel
theorem dX8_rates_84 : decode cX8_rates 84 = .ok (.iload 5, 2) := by decide +kernel
theorem dX8_rates_86 : decode cX8_rates 86 = .ok (.putfield 203, 3) := by decide +kernel
theorem dX8_rates_89 : decode cX8_rates 89 = .ok (.aload_n 0, 1) := by decide +kernel
theorem dX8_rates_90 : decode cX8_rates 90 = .ok (.iload 4, 2) := by decide +kernel
theorem dX8_rates_92 : decode cX8_rates 92 = .ok (.putfield 206, 3) := by decide +kernel
theorem dX8_rates_95 : decode cX8_rates 95 = .ok (.iinc 3 1, 3) := by decide +kernel
theorem dX8_rates_98 : decode cX8_rates 98 = .ok (.goto (-86), 3) := by decide +kernel
theorem dX8_rates_101 : decode cX8_rates 101 = .ok (.iconst 1, 1) := by decide +kernel
theorem dX8_rates_102 : decode cX8_rates 102 = .ok (.ireturn, 1) := by decide +kernel
def f_X8_rates (N : Nat) (x1 : Int32) (x2 : Int32) (M : Mem) : Option (Int32 × Mem) := nm (setI M 0 18 (0 : Int32)) (fun M1 => nm (setI M1 0 19 (1 : Int32)) (fun M2 => lp (fun (k12 : (Int32 × Mem) → Option (Int32 × Mem)) (a12 : Int32 × Mem) => if (a12.2.1 0 17) ≤ a12.1 then (some ((1 : Int32), a12.2)) else (ck (inb a12.1 200) (jn (fun (a95 : Mem) => nm (a12.1 + (1 : Int32)) (fun v3 => k12 (v3, a95))) (fun (k95 : Mem → Option (Int32 × Mem)) => if ((a12.2.1 8 a12.1.toNatClampNeg) &&& (x2 ^^^ (-1 : Int32))) = 0 then (bd (f_X8_fewer N a12.1 x1 a12.2) (fun v4 => if v4 = 0 then (some ((0 : Int32), a12.2)) else (ck (inb a12.1 200) (bd (f_X8_length N (a12.2.1 8 a12.1.toNatClampNeg) a12.2) (fun v6 => if ((a12.2.1 0 18) * v4) < (v6 * (a12.2.1 0 19)) then (nm (setI a12.2 0 18 v6) (fun M8 => nm (setI M8 0 19 v4) (fun M9 => k95 M9))) else (k95 a12.2)))))) else (k95 a12.2))))) N ((0 : Int32), M2)))
set_option maxRecDepth 100000 in
set_option maxHeartbeats 4000000 in
theorem c_X8_rates {l : Launch} {D : va_G} {ac : Nat → ClassId} {A : Nat → Prop} {ad : Nat → Nat} {rest : va_W} (N : Nat) (x1 : Int32) (x2 : Int32)  (M : Mem) (r0 : Int32) (M0 : Mem) (hf : f_X8_rates N x1 x2 M = some (r0, M0)) : CtI l D ac A tabM ad rest yX8_rates cX8_rates 6 .boolean 4 [.ref (ad 0), .int x1, .int x2] M r0 M0 := by
  refine ct_ofI (own := RX8) (by decide +kernel) rfl (Nat.le_of_ble_eq_true rfl) ?_
  intro p e s m args below meth c C
  unfold f_X8_rates at hf
  refine a_L (L' := [(0, .ref (ad 0)), (1, .int x1), (2, .int x2)]) rfl ?_
  refine a_aload_n (pc := 0) C dX8_rates_0 0 rfl ?_
  refine a_iconst (pc := 1) (v := 0) C dX8_rates_1 (by decide) ?_
  refine a_putI (pc := 2) C dX8_rates_2 fl_X8_203 tm_0 rfl hf (fun M1 hf => ?_)
  refine a_aload_n (pc := 5) C dX8_rates_5 0 rfl ?_
  refine a_iconst (pc := 6) (v := 1) C dX8_rates_6 (by decide) ?_
  refine a_putI (pc := 7) C dX8_rates_7 fl_X8_206 tm_0 rfl hf (fun M2 hf => ?_)
  refine a_iconst (pc := 10) (v := 0) C dX8_rates_10 (by decide) ?_
  refine a_istore_n (pc := 11) [(3, .int (0 : Int32)), (0, .ref (ad 0)), (1, .int x1), (2, .int x2)] C dX8_rates_11 (by decide) rfl ?_
  refine a_sub [1, 2, 3, 0] rfl ?_
  refine a_lp 12 (fun a12 : Int32 × Mem => [(0, .ref (ad 0)), (1, .int x1), (2, .int x2), (3, .int a12.1)]) (fun a12 : Int32 × Mem => []) (fun a12 : Int32 × Mem => a12.2) (fun k12 a12 hk12 hf => ?_) N ((0 : Int32), M2) hf
  refine a_iload_n (pc := 12) C dX8_rates_12 3 rfl ?_
  refine a_aload_n (pc := 13) C dX8_rates_13 0 rfl ?_
  refine a_getI (pc := 14) C dX8_rates_14 fl_X8_197 tm_0 rfl ?_
  refine a_icmp_ge (pc := 17) 101 C dX8_rates_17 (by decide) hf (fun hf => ?_) (fun hf => ?_)
  · refine a_iconst (pc := 101) (v := 1) C dX8_rates_101 (by decide) ?_
    exact a_zret (pc := 102) C dX8_rates_102 (Or.inr rfl) (so_1 hf) (so_2 hf)
  · refine a_aload_n (pc := 20) C dX8_rates_20 0 rfl ?_
    refine a_getR (pc := 21) C dX8_rates_21 fl_X8_41 tm_0 rfl ?_
    refine a_iload_n (pc := 24) C dX8_rates_24 3 rfl ?_
    refine a_iald (pc := 25) C dX8_rates_25 tm_8 hf (fun hf => ?_)
    refine a_iload_n (pc := 26) C dX8_rates_26 2 rfl ?_
    refine a_iconst (pc := 27) (v := (-1)) C dX8_rates_27 (by decide) ?_
    refine a_ixor (pc := 28) C dX8_rates_28 ?_
    refine a_iand (pc := 29) C dX8_rates_29 ?_
    refine a_jn 95 (fun a95 : Mem => [(0, .ref (ad 0)), (1, .int x1), (2, .int x2), (3, .int a12.1)]) (fun a95 : Mem => []) (fun a95 : Mem => a95) hf (fun a95 hf => ?_) (fun k95 hk95 hf => ?_)
    · refine a_iinc (pc := 95) (v := 1) (fun v3 => [(3, .int v3), (0, .ref (ad 0)), (1, .int x1), (2, .int x2)]) C dX8_rates_95 3 rfl (by decide) (by decide) (fun _ => rfl) hf (fun v3 hf => ?_)
      refine a_goto (pc := 98) 12 C dX8_rates_98 (by decide) ?_
      exact a_sub [1, 2, 3, 0] rfl (hk12 (v3, a95) hf)
    · refine a_if_eq (pc := 30) 36 C dX8_rates_30 (by decide) hf (fun hf => ?_) (fun hf => ?_)
      · refine a_aload_n (pc := 36) C dX8_rates_36 0 rfl ?_
        refine a_iload_n (pc := 37) C dX8_rates_37 3 rfl ?_
        refine a_iload_n (pc := 38) C dX8_rates_38 1 rfl ?_
        refine a_callV_Ir (pc := 39) (d' := 2) C dX8_rates_39 ml_X8_209 mc_X8_fewer mv_X8_fewer tm_0 rfl [.int a12.1, .int x1] rfl (Nat.le_of_ble_eq_true rfl) (Nat.le_of_ble_eq_true rfl) rfl (Nat.le_of_ble_eq_true rfl) (fun r h => c_X8_fewer N a12.1 x1  _  r h) hf (fun v4 hf => ?_)
        refine a_istore (pc := 42) [(4, .int v4), (0, .ref (ad 0)), (1, .int x1), (2, .int x2), (3, .int a12.1)] C dX8_rates_42 (by decide) rfl ?_
        refine a_iload (pc := 44) C dX8_rates_44 0 rfl ?_
        refine a_if_ne (pc := 46) 51 C dX8_rates_46 (by decide) hf (fun hf => ?_) (fun hf => ?_)
        · refine a_aload_n (pc := 51) C dX8_rates_51 1 rfl ?_
          refine a_aload_n (pc := 52) C dX8_rates_52 1 rfl ?_
          refine a_getR (pc := 53) C dX8_rates_53 fl_X8_41 tm_0 rfl ?_
          refine a_iload_n (pc := 56) C dX8_rates_56 4 rfl ?_
          refine a_iald (pc := 57) C dX8_rates_57 tm_8 hf (fun hf => ?_)
          refine a_callV_Ir (pc := 58) (d' := 3) C dX8_rates_58 ml_X8_212 mc_X8_length mv_X8_length tm_0 rfl [.int (a12.2.1 8 a12.1.toNatClampNeg)] rfl (Nat.le_of_ble_eq_true rfl) (Nat.le_of_ble_eq_true rfl) rfl (Nat.le_of_ble_eq_true rfl) (fun r h => c_X8_length N (a12.2.1 8 a12.1.toNatClampNeg)  _  r h) hf (fun v6 hf => ?_)
          refine a_istore (pc := 61) [(5, .int v6), (4, .int v4), (0, .ref (ad 0)), (1, .int x1), (2, .int x2), (3, .int a12.1)] C dX8_rates_61 (by decide) rfl ?_
          refine a_iload (pc := 63) C dX8_rates_63 0 rfl ?_
          refine a_aload_n (pc := 65) C dX8_rates_65 2 rfl ?_
          refine a_getI (pc := 66) C dX8_rates_66 fl_X8_206 tm_0 rfl ?_
          refine a_imul (pc := 69) C dX8_rates_69 ?_
          refine a_aload_n (pc := 70) C dX8_rates_70 2 rfl ?_
          refine a_getI (pc := 71) C dX8_rates_71 fl_X8_203 tm_0 rfl ?_
          refine a_iload (pc := 74) C dX8_rates_74 1 rfl ?_
          refine a_imul (pc := 76) C dX8_rates_76 ?_
          refine a_icmp_gt (pc := 77) 83 C dX8_rates_77 (by decide) hf (fun hf => ?_) (fun hf => ?_)
          · refine a_aload_n (pc := 83) C dX8_rates_83 2 rfl ?_
            refine a_iload (pc := 84) C dX8_rates_84 0 rfl ?_
            refine a_putI (pc := 86) C dX8_rates_86 fl_X8_203 tm_0 rfl hf (fun M8 hf => ?_)
            refine a_aload_n (pc := 89) C dX8_rates_89 2 rfl ?_
            refine a_iload (pc := 90) C dX8_rates_90 1 rfl ?_
            refine a_putI (pc := 92) C dX8_rates_92 fl_X8_206 tm_0 rfl hf (fun M9 hf => ?_)
            exact a_sub [2, 3, 4, 5] rfl (hk95 M9 hf)
          · refine a_goto (pc := 80) 95 C dX8_rates_80 (by decide) ?_
            exact a_sub [2, 3, 4, 5] rfl (hk95 a12.2 hf)
        · refine a_iconst (pc := 49) (v := 0) C dX8_rates_49 (by decide) ?_
          exact a_zret (pc := 50) C dX8_rates_50 (Or.inl rfl) (so_1 hf) (so_2 hf)
      · refine a_goto (pc := 33) 95 C dX8_rates_33 (by decide) ?_
        exact a_sub [0, 1, 2, 3] rfl (hk95 a12.2 hf)
theorem dX8_rings_0 : decode cX8_rings 0 = .ok (.aload_n 0, 1) := by decide +kernel
theorem dX8_rings_1 : decode cX8_rings 1 = .ok (.invokevirtual 227, 3) := by decide +kernel
theorem dX8_rings_4 : decode cX8_rings 4 = .ok (.aload_n 0, 1) := by decide +kernel
theorem dX8_rings_5 : decode cX8_rings 5 = .ok (.getfield 197, 3) := by decide +kernel
theorem dX8_rings_8 : decode cX8_rings 8 = .ok (.ireturn, 1) := by decide +kernel
def f_X8_rings (N : Nat)  (M : Mem) : Option (Int32 × Mem) := bd (f_X8_laysRings N  M) (fun M2 => some ((M2.1 0 17), M2))
set_option maxRecDepth 100000 in
set_option maxHeartbeats 4000000 in
theorem c_X8_rings {l : Launch} {D : va_G} {ac : Nat → ClassId} {A : Nat → Prop} {ad : Nat → Nat} {rest : va_W} (N : Nat)   (M : Mem) (r0 : Int32) (M0 : Mem) (hf : f_X8_rings N  M = some (r0, M0)) : CtI l D ac A tabM ad rest yX8_rings cX8_rings 1 .int 4 [.ref (ad 0)] M r0 M0 := by
  refine ct_ofI (own := RX8) (by decide +kernel) rfl (Nat.le_of_ble_eq_true rfl) ?_
  intro p e s m args below meth c C
  unfold f_X8_rings at hf
  refine a_L (L' := [(0, .ref (ad 0))]) rfl ?_
  refine a_aload_n (pc := 0) C dX8_rings_0 0 rfl ?_
  refine a_callV_V (pc := 1) (d' := 3) C dX8_rings_1 ml_X8_227 mc_X8_laysRings mv_X8_laysRings tm_0 rfl [] rfl (Nat.le_of_ble_eq_true rfl) (Nat.le_of_ble_eq_true rfl) rfl (Nat.le_of_ble_eq_true rfl) (fun M' h => c_X8_laysRings N   _  M' h) hf (fun M2 hf => ?_)
  refine a_aload_n (pc := 4) C dX8_rings_4 0 rfl ?_
  refine a_getI (pc := 5) C dX8_rings_5 fl_X8_197 tm_0 rfl ?_
  exact a_iret (pc := 8) C dX8_rings_8 (so_1 hf) (so_2 hf)
theorem dX8_ring_0 : decode cX8_ring 0 = .ok (.iload_n 2, 1) := by decide +kernel
theorem dX8_ring_1 : decode cX8_ring 1 = .ok (.i2l, 1) := by decide +kernel
theorem dX8_ring_2 : decode cX8_ring 2 = .ok (.lconst 0, 1) := by decide +kernel
theorem dX8_ring_3 : decode cX8_ring 3 = .ok (.ldc2_w 237, 3) := by decide +kernel
theorem dX8_ring_6 : decode cX8_ring 6 = .ok (.invokestatic 98, 3) := by decide +kernel
theorem dX8_ring_9 : decode cX8_ring 9 = .ok (.ifCond .ne 6, 3) := by decide +kernel
theorem dX8_ring_12 : decode cX8_ring 12 = .ok (.bipush (-2), 2) := by decide +kernel
theorem dX8_ring_14 : decode cX8_ring 14 = .ok (.ireturn, 1) := by decide +kernel
theorem dX8_ring_15 : decode cX8_ring 15 = .ok (.aload_n 0, 1) := by decide +kernel
theorem dX8_ring_16 : decode cX8_ring 16 = .ok (.invokevirtual 227, 3) := by decide +kernel
theorem dX8_ring_19 : decode cX8_ring 19 = .ok (.iload_n 1, 1) := by decide +kernel
theorem dX8_ring_20 : decode cX8_ring 20 = .ok (.i2l, 1) := by decide +kernel
theorem dX8_ring_21 : decode cX8_ring 21 = .ok (.lconst 0, 1) := by decide +kernel
theorem dX8_ring_22 : decode cX8_ring 22 = .ok (.aload_n 0, 1) := by decide +kernel
theorem dX8_ring_23 : decode cX8_ring 23 = .ok (.getfield 197, 3) := by decide +kernel
theorem dX8_ring_26 : decode cX8_ring 26 = .ok (.iconst 1, 1) := by decide +kernel
theorem dX8_ring_27 : decode cX8_ring 27 = .ok (.isub, 1) := by decide +kernel
theorem dX8_ring_28 : decode cX8_ring 28 = .ok (.i2l, 1) := by decide +kernel
theorem dX8_ring_29 : decode cX8_ring 29 = .ok (.invokestatic 98, 3) := by decide +kernel
theorem dX8_ring_32 : decode cX8_ring 32 = .ok (.ifCond .ne 5, 3) := by decide +kernel
theorem dX8_ring_35 : decode cX8_ring 35 = .ok (.iconst (-1), 1) := by decide +kernel
theorem dX8_ring_36 : decode cX8_ring 36 = .ok (.ireturn, 1) := by decide +kernel
theorem dX8_ring_37 : decode cX8_ring 37 = .ok (.iload_n 2, 1) := by decide +kernel
theorem dX8_ring_38 : decode cX8_ring 38 = .ok (.ifCond .ne 12, 3) := by decide +kernel
theorem dX8_ring_41 : decode cX8_ring 41 = .ok (.aload_n 0, 1) := by decide +kernel
theorem dX8_ring_42 : decode cX8_ring 42 = .ok (.getfield 41, 3) := by decide +kernel
theorem dX8_ring_45 : decode cX8_ring 45 = .ok (.iload_n 1, 1) := by decide +kernel
theorem dX8_ring_46 : decode cX8_ring 46 = .ok (.iaload, 1) := by decide +kernel
theorem dX8_ring_47 : decode cX8_ring 47 = .ok (.goto 27, 3) := by decide +kernel
theorem dX8_ring_50 : decode cX8_ring 50 = .ok (.iload_n 2, 1) := by decide +kernel
theorem dX8_ring_51 : decode cX8_ring 51 = .ok (.iconst 1, 1) := by decide +kernel
theorem dX8_ring_52 : decode cX8_ring 52 = .ok (.if_icmp .ne 12, 3) := by decide +kernel
theorem dX8_ring_55 : decode cX8_ring 55 = .ok (.aload_n 0, 1) := by decide +kernel
theorem dX8_ring_56 : decode cX8_ring 56 = .ok (.getfield 47, 3) := by decide +kernel
theorem dX8_ring_59 : decode cX8_ring 59 = .ok (.iload_n 1, 1) := by decide +kernel
theorem dX8_ring_60 : decode cX8_ring 60 = .ok (.iaload, 1) := by decide +kernel
theorem dX8_ring_61 : decode cX8_ring 61 = .ok (.goto 13, 3) := by decide +kernel
theorem dX8_ring_64 : decode cX8_ring 64 = .ok (.aload_n 0, 1) := by decide +kernel
theorem dX8_ring_65 : decode cX8_ring 65 = .ok (.aload_n 0, 1) := by decide +kernel
theorem dX8_ring_66 : decode cX8_ring 66 = .ok (.getfield 41, 3) := by decide +kernel
theorem dX8_ring_69 : decode cX8_ring 69 = .ok (.iload_n 1, 1) := by decide +kernel
theorem dX8_ring_70 : decode cX8_ring 70 = .ok (.iaload, 1) := by decide +kernel
theorem dX8_ring_71 : decode cX8_ring 71 = .ok (.invokevirtual 212, 3) := by decide +kernel
theorem dX8_ring_74 : decode cX8_ring 74 = .ok (.ireturn, 1) := by decide +kernel
def f_X8_ring (N : Nat) (x1 : Int32) (x2 : Int32) (M : Mem) : Option (Int32 × Mem) := bd (f_X8_in N x2.toInt64 (0 : Int64) (2 : Int64) M) (fun v1 => if v1 = 0 then (some ((-2 : Int32), M)) else (bd (f_X8_laysRings N  M) (fun M4 => bd (f_X8_in N x1.toInt64 (0 : Int64) (((M4.1 0 17) - (1 : Int32)).toInt64) M4) (fun v5 => if v5 = 0 then (some ((-1 : Int32), M4)) else (if x2 = 0 then (ck (inb x1 200) (some ((M4.1 8 x1.toNatClampNeg), M4))) else (if x2 = (1 : Int32) then (ck (inb x1 200) (some ((M4.1 10 x1.toNatClampNeg), M4))) else (ck (inb x1 200) (bd (f_X8_length N (M4.1 8 x1.toNatClampNeg) M4) (fun v7 => some (v7, M4))))))))))
set_option maxRecDepth 100000 in
set_option maxHeartbeats 4000000 in
theorem c_X8_ring {l : Launch} {D : va_G} {ac : Nat → ClassId} {A : Nat → Prop} {ad : Nat → Nat} {rest : va_W} (N : Nat) (x1 : Int32) (x2 : Int32)  (M : Mem) (r0 : Int32) (M0 : Mem) (hf : f_X8_ring N x1 x2 M = some (r0, M0)) : CtI l D ac A tabM ad rest yX8_ring cX8_ring 3 .int 4 [.ref (ad 0), .int x1, .int x2] M r0 M0 := by
  refine ct_ofI (own := RX8) (by decide +kernel) rfl (Nat.le_of_ble_eq_true rfl) ?_
  intro p e s m args below meth c C
  unfold f_X8_ring at hf
  refine a_L (L' := [(0, .ref (ad 0)), (1, .int x1), (2, .int x2)]) rfl ?_
  refine a_iload_n (pc := 0) C dX8_ring_0 2 rfl ?_
  refine a_i2l (pc := 1) C dX8_ring_1 ?_
  refine a_lconst (pc := 2) (v := 0) C dX8_ring_2 (by decide) ?_
  refine a_ldc2 (pc := 3) C dX8_ring_3 cj_X8_237 ?_
  refine a_callS_Ir (pc := 6) (d' := 1) C dX8_ring_6 ml_X8_98 mc_X8_in ms_X8_in [.long x2.toInt64, .long (0 : Int64), .long (2 : Int64)] rfl (Nat.le_of_ble_eq_true rfl) (Nat.le_of_ble_eq_true rfl) rfl (Nat.le_of_ble_eq_true rfl) (fun r h => c_X8_in N x2.toInt64 (0 : Int64) (2 : Int64)  _  r h) hf (fun v1 hf => ?_)
  refine a_if_ne (pc := 9) 15 C dX8_ring_9 (by decide) hf (fun hf => ?_) (fun hf => ?_)
  · refine a_aload_n (pc := 15) C dX8_ring_15 0 rfl ?_
    refine a_callV_V (pc := 16) (d' := 3) C dX8_ring_16 ml_X8_227 mc_X8_laysRings mv_X8_laysRings tm_0 rfl [] rfl (Nat.le_of_ble_eq_true rfl) (Nat.le_of_ble_eq_true rfl) rfl (Nat.le_of_ble_eq_true rfl) (fun M' h => c_X8_laysRings N   _  M' h) hf (fun M4 hf => ?_)
    refine a_iload_n (pc := 19) C dX8_ring_19 1 rfl ?_
    refine a_i2l (pc := 20) C dX8_ring_20 ?_
    refine a_lconst (pc := 21) (v := 0) C dX8_ring_21 (by decide) ?_
    refine a_aload_n (pc := 22) C dX8_ring_22 0 rfl ?_
    refine a_getI (pc := 23) C dX8_ring_23 fl_X8_197 tm_0 rfl ?_
    refine a_iconst (pc := 26) (v := 1) C dX8_ring_26 (by decide) ?_
    refine a_isub (pc := 27) C dX8_ring_27 ?_
    refine a_i2l (pc := 28) C dX8_ring_28 ?_
    refine a_callS_Ir (pc := 29) (d' := 1) C dX8_ring_29 ml_X8_98 mc_X8_in ms_X8_in [.long x1.toInt64, .long (0 : Int64), .long (((M4.1 0 17) - (1 : Int32)).toInt64)] rfl (Nat.le_of_ble_eq_true rfl) (Nat.le_of_ble_eq_true rfl) rfl (Nat.le_of_ble_eq_true rfl) (fun r h => c_X8_in N x1.toInt64 (0 : Int64) (((M4.1 0 17) - (1 : Int32)).toInt64)  _  r h) hf (fun v5 hf => ?_)
    refine a_if_ne (pc := 32) 37 C dX8_ring_32 (by decide) hf (fun hf => ?_) (fun hf => ?_)
    · refine a_iload_n (pc := 37) C dX8_ring_37 2 rfl ?_
      refine a_if_ne (pc := 38) 50 C dX8_ring_38 (by decide) hf (fun hf => ?_) (fun hf => ?_)
      · refine a_iload_n (pc := 50) C dX8_ring_50 2 rfl ?_
        refine a_iconst (pc := 51) (v := 1) C dX8_ring_51 (by decide) ?_
        refine a_icmp_ne (pc := 52) 64 C dX8_ring_52 (by decide) hf (fun hf => ?_) (fun hf => ?_)
        · refine a_aload_n (pc := 64) C dX8_ring_64 0 rfl ?_
          refine a_aload_n (pc := 65) C dX8_ring_65 0 rfl ?_
          refine a_getR (pc := 66) C dX8_ring_66 fl_X8_41 tm_0 rfl ?_
          refine a_iload_n (pc := 69) C dX8_ring_69 1 rfl ?_
          refine a_iald (pc := 70) C dX8_ring_70 tm_8 hf (fun hf => ?_)
          refine a_callV_Ir (pc := 71) (d' := 3) C dX8_ring_71 ml_X8_212 mc_X8_length mv_X8_length tm_0 rfl [.int (M4.1 8 x1.toNatClampNeg)] rfl (Nat.le_of_ble_eq_true rfl) (Nat.le_of_ble_eq_true rfl) rfl (Nat.le_of_ble_eq_true rfl) (fun r h => c_X8_length N (M4.1 8 x1.toNatClampNeg)  _  r h) hf (fun v7 hf => ?_)
          exact a_iret (pc := 74) C dX8_ring_74 (so_1 hf) (so_2 hf)
        · refine a_aload_n (pc := 55) C dX8_ring_55 0 rfl ?_
          refine a_getR (pc := 56) C dX8_ring_56 fl_X8_47 tm_0 rfl ?_
          refine a_iload_n (pc := 59) C dX8_ring_59 1 rfl ?_
          refine a_iald (pc := 60) C dX8_ring_60 tm_10 hf (fun hf => ?_)
          refine a_goto (pc := 61) 74 C dX8_ring_61 (by decide) ?_
          exact a_iret (pc := 74) C dX8_ring_74 (so_1 hf) (so_2 hf)
      · refine a_aload_n (pc := 41) C dX8_ring_41 0 rfl ?_
        refine a_getR (pc := 42) C dX8_ring_42 fl_X8_41 tm_0 rfl ?_
        refine a_iload_n (pc := 45) C dX8_ring_45 1 rfl ?_
        refine a_iald (pc := 46) C dX8_ring_46 tm_8 hf (fun hf => ?_)
        refine a_goto (pc := 47) 74 C dX8_ring_47 (by decide) ?_
        exact a_iret (pc := 74) C dX8_ring_74 (so_1 hf) (so_2 hf)
    · refine a_iconst (pc := 35) (v := (-1)) C dX8_ring_35 (by decide) ?_
      exact a_iret (pc := 36) C dX8_ring_36 (so_1 hf) (so_2 hf)
  · refine a_bipush (pc := 12) (v := (-2)) C dX8_ring_12 (by decide) ?_
    exact a_iret (pc := 14) C dX8_ring_14 (so_1 hf) (so_2 hf)
theorem dX8_firstWrong_0 : decode cX8_firstWrong 0 = .ok (.aload_n 0, 1) := by decide +kernel
theorem dX8_firstWrong_1 : decode cX8_firstWrong 1 = .ok (.iload_n 2, 1) := by decide +kernel
theorem dX8_firstWrong_2 : decode cX8_firstWrong 2 = .ok (.putfield 148, 3) := by decide +kernel
theorem dX8_firstWrong_5 : decode cX8_firstWrong 5 = .ok (.aload_n 0, 1) := by decide +kernel
theorem dX8_firstWrong_6 : decode cX8_firstWrong 6 = .ok (.iload_n 3, 1) := by decide +kernel
theorem dX8_firstWrong_7 : decode cX8_firstWrong 7 = .ok (.putfield 151, 3) := by decide +kernel
theorem dX8_firstWrong_10 : decode cX8_firstWrong 10 = .ok (.iconst 0, 1) := by decide +kernel
theorem dX8_firstWrong_11 : decode cX8_firstWrong 11 = .ok (.istore 4, 2) := by decide +kernel
theorem dX8_firstWrong_13 : decode cX8_firstWrong 13 = .ok (.iload 4, 2) := by decide +kernel
theorem dX8_firstWrong_15 : decode cX8_firstWrong 15 = .ok (.aload_n 0, 1) := by decide +kernel
theorem dX8_firstWrong_16 : decode cX8_firstWrong 16 = .ok (.getfield 95, 3) := by decide +kernel
theorem dX8_firstWrong_19 : decode cX8_firstWrong 19 = .ok (.if_icmp .ge 61, 3) := by decide +kernel
theorem dX8_firstWrong_22 : decode cX8_firstWrong 22 = .ok (.aload_n 0, 1) := by decide +kernel
theorem dX8_firstWrong_23 : decode cX8_firstWrong 23 = .ok (.getfield 83, 3) := by decide +kernel
theorem dX8_firstWrong_26 : decode cX8_firstWrong 26 = .ok (.bipush 40, 2) := by decide +kernel
theorem dX8_firstWrong_28 : decode cX8_firstWrong 28 = .ok (.iload_n 1, 1) := by decide +kernel
theorem dX8_firstWrong_29 : decode cX8_firstWrong 29 = .ok (.imul, 1) := by decide +kernel
theorem dX8_firstWrong_30 : decode cX8_firstWrong 30 = .ok (.iload 4, 2) := by decide +kernel
theorem dX8_firstWrong_32 : decode cX8_firstWrong 32 = .ok (.iadd, 1) := by decide +kernel
theorem dX8_firstWrong_33 : decode cX8_firstWrong 33 = .ok (.laload, 1) := by decide +kernel
theorem dX8_firstWrong_34 : decode cX8_firstWrong 34 = .ok (.lstore 5, 2) := by decide +kernel
theorem dX8_firstWrong_36 : decode cX8_firstWrong 36 = .ok (.lload 5, 2) := by decide +kernel
theorem dX8_firstWrong_38 : decode cX8_firstWrong 38 = .ok (.lconst 0, 1) := by decide +kernel
theorem dX8_firstWrong_39 : decode cX8_firstWrong 39 = .ok (.iload_n 2, 1) := by decide +kernel
theorem dX8_firstWrong_40 : decode cX8_firstWrong 40 = .ok (.iconst 1, 1) := by decide +kernel
theorem dX8_firstWrong_41 : decode cX8_firstWrong 41 = .ok (.isub, 1) := by decide +kernel
theorem dX8_firstWrong_42 : decode cX8_firstWrong 42 = .ok (.i2l, 1) := by decide +kernel
theorem dX8_firstWrong_43 : decode cX8_firstWrong 43 = .ok (.invokestatic 98, 3) := by decide +kernel
theorem dX8_firstWrong_46 : decode cX8_firstWrong 46 = .ok (.ifCond .ne 6, 3) := by decide +kernel
theorem dX8_firstWrong_49 : decode cX8_firstWrong 49 = .ok (.iload 4, 2) := by decide +kernel
theorem dX8_firstWrong_51 : decode cX8_firstWrong 51 = .ok (.ireturn, 1) := by decide +kernel
theorem dX8_firstWrong_52 : decode cX8_firstWrong 52 = .ok (.aload_n 0, 1) := by decide +kernel
theorem dX8_firstWrong_53 : decode cX8_firstWrong 53 = .ok (.getfield 38, 3) := by decide +kernel
theorem dX8_firstWrong_56 : decode cX8_firstWrong 56 = .ok (.iload 4, 2) := by decide +kernel
theorem dX8_firstWrong_58 : decode cX8_firstWrong 58 = .ok (.lload 5, 2) := by decide +kernel
theorem dX8_firstWrong_60 : decode cX8_firstWrong 60 = .ok (.l2i, 1) := by decide +kernel
theorem dX8_firstWrong_61 : decode cX8_firstWrong 61 = .ok (.iastore, 1) := by decide +kernel
theorem dX8_firstWrong_62 : decode cX8_firstWrong 62 = .ok (.aload_n 0, 1) := by decide +kernel
theorem dX8_firstWrong_63 : decode cX8_firstWrong 63 = .ok (.iload 4, 2) := by decide +kernel
theorem dX8_firstWrong_65 : decode cX8_firstWrong 65 = .ok (.invokevirtual 189, 3) := by decide +kernel
theorem dX8_firstWrong_68 : decode cX8_firstWrong 68 = .ok (.ifCond .ne 6, 3) := by decide +kernel
theorem dX8_firstWrong_71 : decode cX8_firstWrong 71 = .ok (.iload 4, 2) := by decide +kernel
theorem dX8_firstWrong_73 : decode cX8_firstWrong 73 = .ok (.ireturn, 1) := by decide +kernel
theorem dX8_firstWrong_74 : decode cX8_firstWrong 74 = .ok (.iinc 4 1, 3) := by decide +kernel
theorem dX8_firstWrong_77 : decode cX8_firstWrong 77 = .ok (.goto (-64), 3) := by decide +kernel
theorem dX8_firstWrong_80 : decode cX8_firstWrong 80 = .ok (.iconst (-1), 1) := by decide +kernel
theorem dX8_firstWrong_81 : decode cX8_firstWrong 81 = .ok (.ireturn, 1) := by decide +kernel
def f_X8_firstWrong (N : Nat) (x1 : Int32) (x2 : Int32) (x3 : Int32) (M : Mem) : Option (Int32 × Mem) := nm (setI M 0 12 x2) (fun M1 => nm (setI M1 0 13 x3) (fun M2 => lp (fun (k13 : (Int32 × Mem) → Option (Int32 × Mem)) (a13 : Int32 × Mem) => if (a13.2.1 0 0) ≤ a13.1 then (some ((-1 : Int32), a13.2)) else (ck (inb (((40 : Int32) * x1) + a13.1) 160) (nm (a13.2.2 22 (((40 : Int32) * x1) + a13.1).toNatClampNeg) (fun v3 => bd (f_X8_in N v3 (0 : Int64) ((x2 - (1 : Int32)).toInt64) a13.2) (fun v4 => if v4 = 0 then (some (a13.1, a13.2)) else (ck (inb a13.1 6) (nm (setI a13.2 7 a13.1.toNatClampNeg v3.toInt32) (fun M6 => bd (f_X8_isFarEnough N a13.1 M6) (fun v7 => if v7 = 0 then (some (a13.1, M6)) else (nm (a13.1 + (1 : Int32)) (fun v9 => k13 (v9, M6)))))))))))) N ((0 : Int32), M2)))
set_option maxRecDepth 100000 in
set_option maxHeartbeats 4000000 in
theorem c_X8_firstWrong {l : Launch} {D : va_G} {ac : Nat → ClassId} {A : Nat → Prop} {ad : Nat → Nat} {rest : va_W} (N : Nat) (x1 : Int32) (x2 : Int32) (x3 : Int32)  (M : Mem) (r0 : Int32) (M0 : Mem) (hf : f_X8_firstWrong N x1 x2 x3 M = some (r0, M0)) : CtI l D ac A tabM ad rest yX8_firstWrong cX8_firstWrong 7 .int 4 [.ref (ad 0), .int x1, .int x2, .int x3] M r0 M0 := by
  refine ct_ofI (own := RX8) (by decide +kernel) rfl (Nat.le_of_ble_eq_true rfl) ?_
  intro p e s m args below meth c C
  unfold f_X8_firstWrong at hf
  refine a_L (L' := [(0, .ref (ad 0)), (1, .int x1), (2, .int x2), (3, .int x3)]) rfl ?_
  refine a_aload_n (pc := 0) C dX8_firstWrong_0 0 rfl ?_
  refine a_iload_n (pc := 1) C dX8_firstWrong_1 2 rfl ?_
  refine a_putI (pc := 2) C dX8_firstWrong_2 fl_X8_148 tm_0 rfl hf (fun M1 hf => ?_)
  refine a_aload_n (pc := 5) C dX8_firstWrong_5 0 rfl ?_
  refine a_iload_n (pc := 6) C dX8_firstWrong_6 3 rfl ?_
  refine a_putI (pc := 7) C dX8_firstWrong_7 fl_X8_151 tm_0 rfl hf (fun M2 hf => ?_)
  refine a_iconst (pc := 10) (v := 0) C dX8_firstWrong_10 (by decide) ?_
  refine a_istore (pc := 11) [(4, .int (0 : Int32)), (0, .ref (ad 0)), (1, .int x1), (2, .int x2), (3, .int x3)] C dX8_firstWrong_11 (by decide) rfl ?_
  refine a_sub [1, 2, 3, 0] rfl ?_
  refine a_lp 13 (fun a13 : Int32 × Mem => [(0, .ref (ad 0)), (1, .int x1), (2, .int x2), (4, .int a13.1)]) (fun a13 : Int32 × Mem => []) (fun a13 : Int32 × Mem => a13.2) (fun k13 a13 hk13 hf => ?_) N ((0 : Int32), M2) hf
  refine a_iload (pc := 13) C dX8_firstWrong_13 3 rfl ?_
  refine a_aload_n (pc := 15) C dX8_firstWrong_15 0 rfl ?_
  refine a_getI (pc := 16) C dX8_firstWrong_16 fl_X8_95 tm_0 rfl ?_
  refine a_icmp_ge (pc := 19) 80 C dX8_firstWrong_19 (by decide) hf (fun hf => ?_) (fun hf => ?_)
  · refine a_iconst (pc := 80) (v := (-1)) C dX8_firstWrong_80 (by decide) ?_
    exact a_iret (pc := 81) C dX8_firstWrong_81 (so_1 hf) (so_2 hf)
  · refine a_aload_n (pc := 22) C dX8_firstWrong_22 0 rfl ?_
    refine a_getR (pc := 23) C dX8_firstWrong_23 fl_X8_83 tm_0 rfl ?_
    refine a_bipush (pc := 26) (v := 40) C dX8_firstWrong_26 (by decide) ?_
    refine a_iload_n (pc := 28) C dX8_firstWrong_28 1 rfl ?_
    refine a_imul (pc := 29) C dX8_firstWrong_29 ?_
    refine a_iload (pc := 30) C dX8_firstWrong_30 3 rfl ?_
    refine a_iadd (pc := 32) C dX8_firstWrong_32 ?_
    refine a_lald (pc := 33) C dX8_firstWrong_33 tm_22 hf (fun hf => ?_)
    refine a_nml hf (fun v3 hf => ?_)
    refine a_lstore (pc := 34) [(5, .long v3), (0, .ref (ad 0)), (1, .int x1), (2, .int x2), (4, .int a13.1)] C dX8_firstWrong_34 (by decide) rfl ?_
    refine a_lload (pc := 36) C dX8_firstWrong_36 0 rfl ?_
    refine a_lconst (pc := 38) (v := 0) C dX8_firstWrong_38 (by decide) ?_
    refine a_iload_n (pc := 39) C dX8_firstWrong_39 3 rfl ?_
    refine a_iconst (pc := 40) (v := 1) C dX8_firstWrong_40 (by decide) ?_
    refine a_isub (pc := 41) C dX8_firstWrong_41 ?_
    refine a_i2l (pc := 42) C dX8_firstWrong_42 ?_
    refine a_callS_Ir (pc := 43) (d' := 1) C dX8_firstWrong_43 ml_X8_98 mc_X8_in ms_X8_in [.long v3, .long (0 : Int64), .long ((x2 - (1 : Int32)).toInt64)] rfl (Nat.le_of_ble_eq_true rfl) (Nat.le_of_ble_eq_true rfl) rfl (Nat.le_of_ble_eq_true rfl) (fun r h => c_X8_in N v3 (0 : Int64) ((x2 - (1 : Int32)).toInt64)  _  r h) hf (fun v4 hf => ?_)
    refine a_if_ne (pc := 46) 52 C dX8_firstWrong_46 (by decide) hf (fun hf => ?_) (fun hf => ?_)
    · refine a_aload_n (pc := 52) C dX8_firstWrong_52 1 rfl ?_
      refine a_getR (pc := 53) C dX8_firstWrong_53 fl_X8_38 tm_0 rfl ?_
      refine a_iload (pc := 56) C dX8_firstWrong_56 4 rfl ?_
      refine a_lload (pc := 58) C dX8_firstWrong_58 0 rfl ?_
      refine a_l2i (pc := 60) C dX8_firstWrong_60 ?_
      refine a_iast (pc := 61) C dX8_firstWrong_61 tm_7 hf (fun M6 hf => ?_)
      refine a_aload_n (pc := 62) C dX8_firstWrong_62 1 rfl ?_
      refine a_iload (pc := 63) C dX8_firstWrong_63 4 rfl ?_
      refine a_callV_Ir (pc := 65) (d' := 3) C dX8_firstWrong_65 ml_X8_189 mc_X8_isFarEnough mv_X8_isFarEnough tm_0 rfl [.int a13.1] rfl (Nat.le_of_ble_eq_true rfl) (Nat.le_of_ble_eq_true rfl) rfl (Nat.le_of_ble_eq_true rfl) (fun r h => c_X8_isFarEnough N a13.1  _  r h) hf (fun v7 hf => ?_)
      refine a_if_ne (pc := 68) 74 C dX8_firstWrong_68 (by decide) hf (fun hf => ?_) (fun hf => ?_)
      · refine a_iinc (pc := 74) (v := 1) (fun v9 => [(4, .int v9), (5, .long v3), (0, .ref (ad 0)), (1, .int x1), (2, .int x2)]) C dX8_firstWrong_74 4 rfl (by decide) (by decide) (fun _ => rfl) hf (fun v9 hf => ?_)
        refine a_goto (pc := 77) 13 C dX8_firstWrong_77 (by decide) ?_
        exact a_sub [2, 3, 4, 0] rfl (hk13 (v9, M6) hf)
      · refine a_iload (pc := 71) C dX8_firstWrong_71 4 rfl ?_
        exact a_iret (pc := 73) C dX8_firstWrong_73 (so_1 hf) (so_2 hf)
    · refine a_iload (pc := 49) C dX8_firstWrong_49 4 rfl ?_
      exact a_iret (pc := 51) C dX8_firstWrong_51 (so_1 hf) (so_2 hf)
theorem dX8_does_0 : decode cX8_does 0 = .ok (.iload_n 2, 1) := by decide +kernel
theorem dX8_does_1 : decode cX8_does 1 = .ok (.i2l, 1) := by decide +kernel
theorem dX8_does_2 : decode cX8_does 2 = .ok (.lconst 0, 1) := by decide +kernel
theorem dX8_does_3 : decode cX8_does 3 = .ok (.ldc2_w 118, 3) := by decide +kernel
theorem dX8_does_6 : decode cX8_does 6 = .ok (.invokestatic 98, 3) := by decide +kernel
theorem dX8_does_9 : decode cX8_does 9 = .ok (.ifCond .eq 12, 3) := by decide +kernel
theorem dX8_does_12 : decode cX8_does 12 = .ok (.aload_n 0, 1) := by decide +kernel
theorem dX8_does_13 : decode cX8_does 13 = .ok (.iload_n 1, 1) := by decide +kernel
theorem dX8_does_14 : decode cX8_does 14 = .ok (.iload_n 3, 1) := by decide +kernel
theorem dX8_does_15 : decode cX8_does 15 = .ok (.invokevirtual 282, 3) := by decide +kernel
theorem dX8_does_18 : decode cX8_does 18 = .ok (.goto 5, 3) := by decide +kernel
theorem dX8_does_21 : decode cX8_does 21 = .ok (.bipush (-2), 2) := by decide +kernel
theorem dX8_does_23 : decode cX8_does 23 = .ok (.istore 4, 2) := by decide +kernel
theorem dX8_does_25 : decode cX8_does 25 = .ok (.iload 4, 2) := by decide +kernel
theorem dX8_does_27 : decode cX8_does 27 = .ok (.ifCond .eq 6, 3) := by decide +kernel
theorem dX8_does_30 : decode cX8_does 30 = .ok (.iload 4, 2) := by decide +kernel
theorem dX8_does_32 : decode cX8_does 32 = .ok (.ireturn, 1) := by decide +kernel
theorem dX8_does_33 : decode cX8_does 33 = .ok (.aload_n 0, 1) := by decide +kernel
theorem dX8_does_34 : decode cX8_does 34 = .ok (.getfield 62, 3) := by decide +kernel
theorem dX8_does_37 : decode cX8_does 37 = .ok (.iload_n 1, 1) := by decide +kernel
theorem dX8_does_38 : decode cX8_does 38 = .ok (.laload, 1) := by decide +kernel
theorem dX8_does_39 : decode cX8_does 39 = .ok (.lstore 5, 2) := by decide +kernel
theorem dX8_does_41 : decode cX8_does 41 = .ok (.aload_n 0, 1) := by decide +kernel
theorem dX8_does_42 : decode cX8_does 42 = .ok (.getfield 65, 3) := by decide +kernel
theorem dX8_does_45 : decode cX8_does 45 = .ok (.iload_n 1, 1) := by decide +kernel
theorem dX8_does_46 : decode cX8_does 46 = .ok (.laload, 1) := by decide +kernel
theorem dX8_does_47 : decode cX8_does 47 = .ok (.lstore 7, 2) := by decide +kernel
theorem dX8_does_49 : decode cX8_does 49 = .ok (.aload_n 0, 1) := by decide +kernel
theorem dX8_does_50 : decode cX8_does 50 = .ok (.getfield 62, 3) := by decide +kernel
theorem dX8_does_53 : decode cX8_does 53 = .ok (.iload_n 3, 1) := by decide +kernel
theorem dX8_does_54 : decode cX8_does 54 = .ok (.laload, 1) := by decide +kernel
theorem dX8_does_55 : decode cX8_does 55 = .ok (.lstore 9, 2) := by decide +kernel
theorem dX8_does_57 : decode cX8_does 57 = .ok (.aload_n 0, 1) := by decide +kernel
theorem dX8_does_58 : decode cX8_does 58 = .ok (.getfield 65, 3) := by decide +kernel
theorem dX8_does_61 : decode cX8_does 61 = .ok (.iload_n 3, 1) := by decide +kernel
theorem dX8_does_62 : decode cX8_does 62 = .ok (.laload, 1) := by decide +kernel
theorem dX8_does_63 : decode cX8_does 63 = .ok (.lstore 11, 2) := by decide +kernel
theorem dX8_does_65 : decode cX8_does 65 = .ok (.iload_n 2, 1) := by decide +kernel
theorem dX8_does_66 : decode cX8_does 66 = .ok (.iconst 3, 1) := by decide +kernel
theorem dX8_does_67 : decode cX8_does 67 = .ok (.if_icmp .ne 13, 3) := by decide +kernel
theorem dX8_does_70 : decode cX8_does 70 = .ok (.lload 9, 2) := by decide +kernel
theorem dX8_does_72 : decode cX8_does 72 = .ok (.lconst 0, 1) := by decide +kernel
theorem dX8_does_73 : decode cX8_does 73 = .ok (.lcmp, 1) := by decide +kernel
theorem dX8_does_74 : decode cX8_does 74 = .ok (.ifCond .ne 6, 3) := by decide +kernel
theorem dX8_does_77 : decode cX8_does 77 = .ok (.bipush (-15), 2) := by decide +kernel
theorem dX8_does_79 : decode cX8_does 79 = .ok (.ireturn, 1) := by decide +kernel
theorem dX8_does_80 : decode cX8_does 80 = .ok (.aload_n 0, 1) := by decide +kernel
theorem dX8_does_81 : decode cX8_does 81 = .ok (.iconst 0, 1) := by decide +kernel
theorem dX8_does_82 : decode cX8_does 82 = .ok (.putfield 278, 3) := by decide +kernel
theorem dX8_does_85 : decode cX8_does 85 = .ok (.lconst 0, 1) := by decide +kernel
theorem dX8_does_86 : decode cX8_does 86 = .ok (.lstore 13, 2) := by decide +kernel
theorem dX8_does_88 : decode cX8_does 88 = .ok (.lconst 0, 1) := by decide +kernel
theorem dX8_does_89 : decode cX8_does 89 = .ok (.lstore 15, 2) := by decide +kernel
theorem dX8_does_91 : decode cX8_does 91 = .ok (.iload_n 2, 1) := by decide +kernel
theorem dX8_does_92 : decode cX8_does 92 = .ok (.tableswitch 148 0 3 #[32, 67, 102, 125], 32) := by decide +kernel
theorem dX8_does_124 : decode cX8_does 124 = .ok (.aload_n 0, 1) := by decide +kernel
theorem dX8_does_125 : decode cX8_does 125 = .ok (.aload_n 0, 1) := by decide +kernel
theorem dX8_does_126 : decode cX8_does 126 = .ok (.lload 5, 2) := by decide +kernel
theorem dX8_does_128 : decode cX8_does 128 = .ok (.lload 11, 2) := by decide +kernel
theorem dX8_does_130 : decode cX8_does 130 = .ok (.invokevirtual 285, 3) := by decide +kernel
theorem dX8_does_133 : decode cX8_does 133 = .ok (.aload_n 0, 1) := by decide +kernel
theorem dX8_does_134 : decode cX8_does 134 = .ok (.lload 9, 2) := by decide +kernel
theorem dX8_does_136 : decode cX8_does 136 = .ok (.lload 7, 2) := by decide +kernel
theorem dX8_does_138 : decode cX8_does 138 = .ok (.invokevirtual 285, 3) := by decide +kernel
theorem dX8_does_141 : decode cX8_does 141 = .ok (.invokevirtual 289, 3) := by decide +kernel
theorem dX8_does_144 : decode cX8_does 144 = .ok (.lstore 13, 2) := by decide +kernel
theorem dX8_does_146 : decode cX8_does 146 = .ok (.aload_n 0, 1) := by decide +kernel
theorem dX8_does_147 : decode cX8_does 147 = .ok (.lload 7, 2) := by decide +kernel
theorem dX8_does_149 : decode cX8_does 149 = .ok (.lload 11, 2) := by decide +kernel
theorem dX8_does_151 : decode cX8_does 151 = .ok (.invokevirtual 285, 3) := by decide +kernel
theorem dX8_does_154 : decode cX8_does 154 = .ok (.lstore 15, 2) := by decide +kernel
theorem dX8_does_156 : decode cX8_does 156 = .ok (.goto 104, 3) := by decide +kernel
theorem dX8_does_159 : decode cX8_does 159 = .ok (.aload_n 0, 1) := by decide +kernel
theorem dX8_does_160 : decode cX8_does 160 = .ok (.aload_n 0, 1) := by decide +kernel
theorem dX8_does_161 : decode cX8_does 161 = .ok (.lload 5, 2) := by decide +kernel
theorem dX8_does_163 : decode cX8_does 163 = .ok (.lload 11, 2) := by decide +kernel
theorem dX8_does_165 : decode cX8_does 165 = .ok (.invokevirtual 285, 3) := by decide +kernel
theorem dX8_does_168 : decode cX8_does 168 = .ok (.aload_n 0, 1) := by decide +kernel
theorem dX8_does_169 : decode cX8_does 169 = .ok (.lload 9, 2) := by decide +kernel
theorem dX8_does_171 : decode cX8_does 171 = .ok (.lload 7, 2) := by decide +kernel
theorem dX8_does_173 : decode cX8_does 173 = .ok (.invokevirtual 285, 3) := by decide +kernel
theorem dX8_does_176 : decode cX8_does 176 = .ok (.invokevirtual 292, 3) := by decide +kernel
theorem dX8_does_179 : decode cX8_does 179 = .ok (.lstore 13, 2) := by decide +kernel
theorem dX8_does_181 : decode cX8_does 181 = .ok (.aload_n 0, 1) := by decide +kernel
theorem dX8_does_182 : decode cX8_does 182 = .ok (.lload 7, 2) := by decide +kernel
theorem dX8_does_184 : decode cX8_does 184 = .ok (.lload 11, 2) := by decide +kernel
theorem dX8_does_186 : decode cX8_does 186 = .ok (.invokevirtual 285, 3) := by decide +kernel
theorem dX8_does_189 : decode cX8_does 189 = .ok (.lstore 15, 2) := by decide +kernel
theorem dX8_does_191 : decode cX8_does 191 = .ok (.goto 69, 3) := by decide +kernel
theorem dX8_does_194 : decode cX8_does 194 = .ok (.aload_n 0, 1) := by decide +kernel
theorem dX8_does_195 : decode cX8_does 195 = .ok (.lload 5, 2) := by decide +kernel
theorem dX8_does_197 : decode cX8_does 197 = .ok (.lload 9, 2) := by decide +kernel
theorem dX8_does_199 : decode cX8_does 199 = .ok (.invokevirtual 285, 3) := by decide +kernel
theorem dX8_does_202 : decode cX8_does 202 = .ok (.lstore 13, 2) := by decide +kernel
theorem dX8_does_204 : decode cX8_does 204 = .ok (.aload_n 0, 1) := by decide +kernel
theorem dX8_does_205 : decode cX8_does 205 = .ok (.lload 7, 2) := by decide +kernel
theorem dX8_does_207 : decode cX8_does 207 = .ok (.lload 11, 2) := by decide +kernel
theorem dX8_does_209 : decode cX8_does 209 = .ok (.invokevirtual 285, 3) := by decide +kernel
theorem dX8_does_212 : decode cX8_does 212 = .ok (.lstore 15, 2) := by decide +kernel
theorem dX8_does_214 : decode cX8_does 214 = .ok (.goto 46, 3) := by decide +kernel
theorem dX8_does_217 : decode cX8_does 217 = .ok (.aload_n 0, 1) := by decide +kernel
theorem dX8_does_218 : decode cX8_does 218 = .ok (.lload 5, 2) := by decide +kernel
theorem dX8_does_220 : decode cX8_does 220 = .ok (.lload 11, 2) := by decide +kernel
theorem dX8_does_222 : decode cX8_does 222 = .ok (.invokevirtual 285, 3) := by decide +kernel
theorem dX8_does_225 : decode cX8_does 225 = .ok (.lstore 13, 2) := by decide +kernel
theorem dX8_does_227 : decode cX8_does 227 = .ok (.aload_n 0, 1) := by decide +kernel
theorem dX8_does_228 : decode cX8_does 228 = .ok (.lload 7, 2) := by decide +kernel
theorem dX8_does_230 : decode cX8_does 230 = .ok (.lload 9, 2) := by decide +kernel
theorem dX8_does_232 : decode cX8_does 232 = .ok (.invokevirtual 285, 3) := by decide +kernel
theorem dX8_does_235 : decode cX8_does 235 = .ok (.lstore 15, 2) := by decide +kernel
theorem dX8_does_237 : decode cX8_does 237 = .ok (.goto 23, 3) := by decide +kernel
theorem dX8_does_240 : decode cX8_does 240 = .ok (.aload_n 0, 1) := by decide +kernel
theorem dX8_does_241 : decode cX8_does 241 = .ok (.lload 5, 2) := by decide +kernel
theorem dX8_does_243 : decode cX8_does 243 = .ok (.lload 9, 2) := by decide +kernel
theorem dX8_does_245 : decode cX8_does 245 = .ok (.invokevirtual 289, 3) := by decide +kernel
theorem dX8_does_248 : decode cX8_does 248 = .ok (.lstore 13, 2) := by decide +kernel
theorem dX8_does_250 : decode cX8_does 250 = .ok (.aload_n 0, 1) := by decide +kernel
theorem dX8_does_251 : decode cX8_does 251 = .ok (.lload 7, 2) := by decide +kernel
theorem dX8_does_253 : decode cX8_does 253 = .ok (.lload 11, 2) := by decide +kernel
theorem dX8_does_255 : decode cX8_does 255 = .ok (.invokevirtual 289, 3) := by decide +kernel
theorem dX8_does_258 : decode cX8_does 258 = .ok (.lstore 15, 2) := by decide +kernel
theorem dX8_does_260 : decode cX8_does 260 = .ok (.aload_n 0, 1) := by decide +kernel
theorem dX8_does_261 : decode cX8_does 261 = .ok (.getfield 278, 3) := by decide +kernel
theorem dX8_does_264 : decode cX8_does 264 = .ok (.ifCond .eq 8, 3) := by decide +kernel
theorem dX8_does_267 : decode cX8_does 267 = .ok (.bipush (-5), 2) := by decide +kernel
theorem dX8_does_269 : decode cX8_does 269 = .ok (.goto 12, 3) := by decide +kernel
theorem dX8_does_272 : decode cX8_does 272 = .ok (.aload_n 0, 1) := by decide +kernel
theorem dX8_does_273 : decode cX8_does 273 = .ok (.iload_n 1, 1) := by decide +kernel
theorem dX8_does_274 : decode cX8_does 274 = .ok (.lload 13, 2) := by decide +kernel
theorem dX8_does_276 : decode cX8_does 276 = .ok (.lload 15, 2) := by decide +kernel
theorem dX8_does_278 : decode cX8_does 278 = .ok (.invokevirtual 274, 3) := by decide +kernel
theorem dX8_does_281 : decode cX8_does 281 = .ok (.ireturn, 1) := by decide +kernel
def f_X8_does (N : Nat) (x1 : Int32) (x2 : Int32) (x3 : Int32) (M : Mem) : Option (Int32 × Mem) := bd (f_X8_in N x2.toInt64 (0 : Int64) (4 : Int64) M) (fun v1 => jn (fun (a23 : Int32) => if a23 = 0 then (ck (inb x1 4) (nm (M.2 15 x1.toNatClampNeg) (fun v3 => ck (inb x1 4) (nm (M.2 16 x1.toNatClampNeg) (fun v4 => ck (inb x3 4) (nm (M.2 15 x3.toNatClampNeg) (fun v5 => ck (inb x3 4) (nm (M.2 16 x3.toNatClampNeg) (fun v6 => jn (fun (a80 : Unit) => ck ((0 : Int32) = 0 ∨ (0 : Int32) = 1) (nm (setI M 0 29 (0 : Int32)) (fun M7 => jn (fun (a260 : Int64 × Int64 × Mem) => if (a260.2.2.1 0 29) = 0 then (bd (f_X8_gets N x1 a260.1 a260.2.1 a260.2.2) (fun w10 => some (w10.1, w10.2))) else (some ((-5 : Int32), a260.2.2))) (fun (k260 : (Int64 × Int64 × Mem) → Option (Int32 × Mem)) => if x2 = 0 then (bd (f_X8_times N v3 v6 M7) (fun w14 => bd (f_X8_times N v5 v4 w14.2) (fun w17 => bd (f_X8_plus N w14.1 w17.1 w17.2) (fun w20 => bd (f_X8_times N v4 v6 w20.2) (fun w23 => k260 (w20.1, w23.1, w23.2)))))) else if x2 = 1 then (bd (f_X8_times N v3 v6 M7) (fun w27 => bd (f_X8_times N v5 v4 w27.2) (fun w30 => bd (f_X8_minus N w27.1 w30.1 w30.2) (fun w33 => bd (f_X8_times N v4 v6 w33.2) (fun w36 => k260 (w33.1, w36.1, w36.2)))))) else if x2 = 2 then (bd (f_X8_times N v3 v5 M7) (fun w40 => bd (f_X8_times N v4 v6 w40.2) (fun w43 => k260 (w40.1, w43.1, w43.2)))) else if x2 = 3 then (bd (f_X8_times N v3 v6 M7) (fun w47 => bd (f_X8_times N v4 v5 w47.2) (fun w50 => k260 (w47.1, w50.1, w50.2)))) else (bd (f_X8_plus N v3 v5 M7) (fun w53 => bd (f_X8_plus N v4 v6 w53.2) (fun w56 => k260 (w53.1, w56.1, w56.2)))))))) (fun (k80 : Unit → Option (Int32 × Mem)) => if x2 = (3 : Int32) then (if (lg_cmp v5 (0 : Int64)) = 0 then (some ((-15 : Int32), M)) else (k80 ())) else (k80 ()))))))))))) else (some (a23, M))) (fun (k23 : Int32 → Option (Int32 × Mem)) => if v1 = 0 then (k23 (-2 : Int32)) else (bd (f_X8_wrongHolds N x1 x3 M) (fun v57 => k23 v57))))
set_option maxRecDepth 100000 in
set_option maxHeartbeats 4000000 in
theorem c_X8_does {l : Launch} {D : va_G} {ac : Nat → ClassId} {A : Nat → Prop} {ad : Nat → Nat} {rest : va_W} (N : Nat) (x1 : Int32) (x2 : Int32) (x3 : Int32)  (M : Mem) (r0 : Int32) (M0 : Mem) (hf : f_X8_does N x1 x2 x3 M = some (r0, M0)) : CtI l D ac A tabM ad rest yX8_does cX8_does 17 .int 4 [.ref (ad 0), .int x1, .int x2, .int x3] M r0 M0 := by
  refine ct_ofI (own := RX8) (by decide +kernel) rfl (Nat.le_of_ble_eq_true rfl) ?_
  intro p e s m args below meth c C
  unfold f_X8_does at hf
  refine a_L (L' := [(0, .ref (ad 0)), (1, .int x1), (2, .int x2), (3, .int x3)]) rfl ?_
  refine a_iload_n (pc := 0) C dX8_does_0 2 rfl ?_
  refine a_i2l (pc := 1) C dX8_does_1 ?_
  refine a_lconst (pc := 2) (v := 0) C dX8_does_2 (by decide) ?_
  refine a_ldc2 (pc := 3) C dX8_does_3 cj_X8_118 ?_
  refine a_callS_Ir (pc := 6) (d' := 1) C dX8_does_6 ml_X8_98 mc_X8_in ms_X8_in [.long x2.toInt64, .long (0 : Int64), .long (4 : Int64)] rfl (Nat.le_of_ble_eq_true rfl) (Nat.le_of_ble_eq_true rfl) rfl (Nat.le_of_ble_eq_true rfl) (fun r h => c_X8_in N x2.toInt64 (0 : Int64) (4 : Int64)  _  r h) hf (fun v1 hf => ?_)
  refine a_jn 23 (fun a23 : Int32 => [(0, .ref (ad 0)), (1, .int x1), (2, .int x2), (3, .int x3)]) (fun a23 : Int32 => [.int a23]) (fun a23 : Int32 => M) hf (fun a23 hf => ?_) (fun k23 hk23 hf => ?_)
  · refine a_istore (pc := 23) [(4, .int a23), (0, .ref (ad 0)), (1, .int x1), (2, .int x2), (3, .int x3)] C dX8_does_23 (by decide) rfl ?_
    refine a_iload (pc := 25) C dX8_does_25 0 rfl ?_
    refine a_if_eq (pc := 27) 33 C dX8_does_27 (by decide) hf (fun hf => ?_) (fun hf => ?_)
    · refine a_aload_n (pc := 33) C dX8_does_33 1 rfl ?_
      refine a_getR (pc := 34) C dX8_does_34 fl_X8_62 tm_0 rfl ?_
      refine a_iload_n (pc := 37) C dX8_does_37 2 rfl ?_
      refine a_lald (pc := 38) C dX8_does_38 tm_15 hf (fun hf => ?_)
      refine a_nml hf (fun v3 hf => ?_)
      refine a_lstore (pc := 39) [(5, .long v3), (4, .int a23), (0, .ref (ad 0)), (1, .int x1), (2, .int x2), (3, .int x3)] C dX8_does_39 (by decide) rfl ?_
      refine a_aload_n (pc := 41) C dX8_does_41 2 rfl ?_
      refine a_getR (pc := 42) C dX8_does_42 fl_X8_65 tm_0 rfl ?_
      refine a_iload_n (pc := 45) C dX8_does_45 3 rfl ?_
      refine a_lald (pc := 46) C dX8_does_46 tm_16 hf (fun hf => ?_)
      refine a_nml hf (fun v4 hf => ?_)
      refine a_lstore (pc := 47) [(7, .long v4), (5, .long v3), (4, .int a23), (0, .ref (ad 0)), (1, .int x1), (2, .int x2), (3, .int x3)] C dX8_does_47 (by decide) rfl ?_
      refine a_aload_n (pc := 49) C dX8_does_49 3 rfl ?_
      refine a_getR (pc := 50) C dX8_does_50 fl_X8_62 tm_0 rfl ?_
      refine a_iload_n (pc := 53) C dX8_does_53 6 rfl ?_
      refine a_lald (pc := 54) C dX8_does_54 tm_15 hf (fun hf => ?_)
      refine a_nml hf (fun v5 hf => ?_)
      refine a_lstore (pc := 55) [(9, .long v5), (7, .long v4), (5, .long v3), (4, .int a23), (0, .ref (ad 0)), (1, .int x1), (2, .int x2), (3, .int x3)] C dX8_does_55 (by decide) rfl ?_
      refine a_aload_n (pc := 57) C dX8_does_57 4 rfl ?_
      refine a_getR (pc := 58) C dX8_does_58 fl_X8_65 tm_0 rfl ?_
      refine a_iload_n (pc := 61) C dX8_does_61 7 rfl ?_
      refine a_lald (pc := 62) C dX8_does_62 tm_16 hf (fun hf => ?_)
      refine a_nml hf (fun v6 hf => ?_)
      refine a_lstore (pc := 63) [(11, .long v6), (9, .long v5), (7, .long v4), (5, .long v3), (4, .int a23), (0, .ref (ad 0)), (1, .int x1), (2, .int x2), (3, .int x3)] C dX8_does_63 (by decide) rfl ?_
      refine a_iload_n (pc := 65) C dX8_does_65 7 rfl ?_
      refine a_iconst (pc := 66) (v := 3) C dX8_does_66 (by decide) ?_
      refine a_jn 80 (fun a80 : Unit => [(0, .ref (ad 0)), (1, .int x1), (2, .int x2), (5, .long v3), (7, .long v4), (9, .long v5), (11, .long v6)]) (fun a80 : Unit => []) (fun a80 : Unit => M) hf (fun a80 hf => ?_) (fun k80 hk80 hf => ?_)
      · refine a_aload_n (pc := 80) C dX8_does_80 0 rfl ?_
        refine a_iconst (pc := 81) (v := 0) C dX8_does_81 (by decide) ?_
        refine a_putZ (pc := 82) C dX8_does_82 fl_X8_278 tm_0 rfl hf (fun M7 hf => ?_)
        refine a_lconst (pc := 85) (v := 0) C dX8_does_85 (by decide) ?_
        refine a_lstore (pc := 86) [(13, .long (0 : Int64)), (0, .ref (ad 0)), (1, .int x1), (2, .int x2), (5, .long v3), (7, .long v4), (9, .long v5), (11, .long v6)] C dX8_does_86 (by decide) rfl ?_
        refine a_lconst (pc := 88) (v := 0) C dX8_does_88 (by decide) ?_
        refine a_lstore (pc := 89) [(15, .long (0 : Int64)), (13, .long (0 : Int64)), (0, .ref (ad 0)), (1, .int x1), (2, .int x2), (5, .long v3), (7, .long v4), (9, .long v5), (11, .long v6)] C dX8_does_89 (by decide) rfl ?_
        refine a_iload_n (pc := 91) C dX8_does_91 4 rfl ?_
        refine a_jn 260 (fun a260 : Int64 × Int64 × Mem => [(0, .ref (ad 0)), (1, .int x1), (13, .long a260.1), (15, .long a260.2.1)]) (fun a260 : Int64 × Int64 × Mem => []) (fun a260 : Int64 × Int64 × Mem => a260.2.2) hf (fun a260 hf => ?_) (fun k260 hk260 hf => ?_)
        · refine a_aload_n (pc := 260) C dX8_does_260 0 rfl ?_
          refine a_getI (pc := 261) C dX8_does_261 fl_X8_278 tm_0 rfl ?_
          refine a_if_eq (pc := 264) 272 C dX8_does_264 (by decide) hf (fun hf => ?_) (fun hf => ?_)
          · refine a_aload_n (pc := 272) C dX8_does_272 0 rfl ?_
            refine a_iload_n (pc := 273) C dX8_does_273 1 rfl ?_
            refine a_lload (pc := 274) C dX8_does_274 2 rfl ?_
            refine a_lload (pc := 276) C dX8_does_276 3 rfl ?_
            refine a_callV_I (pc := 278) (d' := 1) C dX8_does_278 ml_X8_274 mc_X8_gets mv_X8_gets tm_0 rfl [.int x1, .long a260.1, .long a260.2.1] rfl (Nat.le_of_ble_eq_true rfl) (Nat.le_of_ble_eq_true rfl) rfl (Nat.le_of_ble_eq_true rfl) (fun r M' h => c_X8_gets N x1 a260.1 a260.2.1  _  r M' h) hf (fun v8 M9 hf => ?_)
            exact a_iret (pc := 281) C dX8_does_281 (so_1 hf) (so_2 hf)
          · refine a_bipush (pc := 267) (v := (-5)) C dX8_does_267 (by decide) ?_
            refine a_goto (pc := 269) 281 C dX8_does_269 (by decide) ?_
            exact a_iret (pc := 281) C dX8_does_281 (so_1 hf) (so_2 hf)
        · by_cases hs11 : x2 = 0
          · rw [if_pos hs11] at hf
            refine a_tabIn (pc := 92) (off := 32) 124 C dX8_does_92 (by rw [hs11]; decide) (by rw [hs11]; decide) (by rw [hs11]; rfl) (by decide) ?_
            refine a_aload_n (pc := 124) C dX8_does_124 2 rfl ?_
            refine a_aload_n (pc := 125) C dX8_does_125 2 rfl ?_
            refine a_lload (pc := 126) C dX8_does_126 5 rfl ?_
            refine a_lload (pc := 128) C dX8_does_128 8 rfl ?_
            refine a_callV_J (pc := 130) (d' := 1) C dX8_does_130 ml_X8_285 mc_X8_times mv_X8_times tm_0 rfl [.long v3, .long v6] rfl (Nat.le_of_ble_eq_true rfl) (Nat.le_of_ble_eq_true rfl) rfl (Nat.le_of_ble_eq_true rfl) (fun r M' h => c_X8_times N v3 v6  _  r M' h) hf (fun v12 M13 hf => ?_)
            refine a_aload_n (pc := 133) C dX8_does_133 2 rfl ?_
            refine a_lload (pc := 134) C dX8_does_134 7 rfl ?_
            refine a_lload (pc := 136) C dX8_does_136 6 rfl ?_
            refine a_callV_J (pc := 138) (d' := 1) C dX8_does_138 ml_X8_285 mc_X8_times mv_X8_times tm_0 rfl [.long v5, .long v4] rfl (Nat.le_of_ble_eq_true rfl) (Nat.le_of_ble_eq_true rfl) rfl (Nat.le_of_ble_eq_true rfl) (fun r M' h => c_X8_times N v5 v4  _  r M' h) hf (fun v15 M16 hf => ?_)
            refine a_callV_J (pc := 141) (d' := 1) C dX8_does_141 ml_X8_289 mc_X8_plus mv_X8_plus tm_0 rfl [.long v12, .long v15] rfl (Nat.le_of_ble_eq_true rfl) (Nat.le_of_ble_eq_true rfl) rfl (Nat.le_of_ble_eq_true rfl) (fun r M' h => c_X8_plus N v12 v15  _  r M' h) hf (fun v18 M19 hf => ?_)
            refine a_lstore (pc := 144) [(13, .long v18), (15, .long (0 : Int64)), (0, .ref (ad 0)), (1, .int x1), (2, .int x2), (5, .long v3), (7, .long v4), (9, .long v5), (11, .long v6)] C dX8_does_144 (by decide) rfl ?_
            refine a_aload_n (pc := 146) C dX8_does_146 2 rfl ?_
            refine a_lload (pc := 147) C dX8_does_147 6 rfl ?_
            refine a_lload (pc := 149) C dX8_does_149 8 rfl ?_
            refine a_callV_J (pc := 151) (d' := 1) C dX8_does_151 ml_X8_285 mc_X8_times mv_X8_times tm_0 rfl [.long v4, .long v6] rfl (Nat.le_of_ble_eq_true rfl) (Nat.le_of_ble_eq_true rfl) rfl (Nat.le_of_ble_eq_true rfl) (fun r M' h => c_X8_times N v4 v6  _  r M' h) hf (fun v21 M22 hf => ?_)
            refine a_lstore (pc := 154) [(15, .long v21), (13, .long v18), (0, .ref (ad 0)), (1, .int x1), (2, .int x2), (5, .long v3), (7, .long v4), (9, .long v5), (11, .long v6)] C dX8_does_154 (by decide) rfl ?_
            refine a_goto (pc := 156) 260 C dX8_does_156 (by decide) ?_
            exact a_sub [2, 3, 1, 0] rfl (hk260 (v18, v21, M22) hf)
          · rw [if_neg hs11] at hf
            by_cases hs24 : x2 = 1
            · rw [if_pos hs24] at hf
              refine a_tabIn (pc := 92) (off := 67) 159 C dX8_does_92 (by rw [hs24]; decide) (by rw [hs24]; decide) (by rw [hs24]; rfl) (by decide) ?_
              refine a_aload_n (pc := 159) C dX8_does_159 2 rfl ?_
              refine a_aload_n (pc := 160) C dX8_does_160 2 rfl ?_
              refine a_lload (pc := 161) C dX8_does_161 5 rfl ?_
              refine a_lload (pc := 163) C dX8_does_163 8 rfl ?_
              refine a_callV_J (pc := 165) (d' := 1) C dX8_does_165 ml_X8_285 mc_X8_times mv_X8_times tm_0 rfl [.long v3, .long v6] rfl (Nat.le_of_ble_eq_true rfl) (Nat.le_of_ble_eq_true rfl) rfl (Nat.le_of_ble_eq_true rfl) (fun r M' h => c_X8_times N v3 v6  _  r M' h) hf (fun v25 M26 hf => ?_)
              refine a_aload_n (pc := 168) C dX8_does_168 2 rfl ?_
              refine a_lload (pc := 169) C dX8_does_169 7 rfl ?_
              refine a_lload (pc := 171) C dX8_does_171 6 rfl ?_
              refine a_callV_J (pc := 173) (d' := 1) C dX8_does_173 ml_X8_285 mc_X8_times mv_X8_times tm_0 rfl [.long v5, .long v4] rfl (Nat.le_of_ble_eq_true rfl) (Nat.le_of_ble_eq_true rfl) rfl (Nat.le_of_ble_eq_true rfl) (fun r M' h => c_X8_times N v5 v4  _  r M' h) hf (fun v28 M29 hf => ?_)
              refine a_callV_J (pc := 176) (d' := 1) C dX8_does_176 ml_X8_292 mc_X8_minus mv_X8_minus tm_0 rfl [.long v25, .long v28] rfl (Nat.le_of_ble_eq_true rfl) (Nat.le_of_ble_eq_true rfl) rfl (Nat.le_of_ble_eq_true rfl) (fun r M' h => c_X8_minus N v25 v28  _  r M' h) hf (fun v31 M32 hf => ?_)
              refine a_lstore (pc := 179) [(13, .long v31), (15, .long (0 : Int64)), (0, .ref (ad 0)), (1, .int x1), (2, .int x2), (5, .long v3), (7, .long v4), (9, .long v5), (11, .long v6)] C dX8_does_179 (by decide) rfl ?_
              refine a_aload_n (pc := 181) C dX8_does_181 2 rfl ?_
              refine a_lload (pc := 182) C dX8_does_182 6 rfl ?_
              refine a_lload (pc := 184) C dX8_does_184 8 rfl ?_
              refine a_callV_J (pc := 186) (d' := 1) C dX8_does_186 ml_X8_285 mc_X8_times mv_X8_times tm_0 rfl [.long v4, .long v6] rfl (Nat.le_of_ble_eq_true rfl) (Nat.le_of_ble_eq_true rfl) rfl (Nat.le_of_ble_eq_true rfl) (fun r M' h => c_X8_times N v4 v6  _  r M' h) hf (fun v34 M35 hf => ?_)
              refine a_lstore (pc := 189) [(15, .long v34), (13, .long v31), (0, .ref (ad 0)), (1, .int x1), (2, .int x2), (5, .long v3), (7, .long v4), (9, .long v5), (11, .long v6)] C dX8_does_189 (by decide) rfl ?_
              refine a_goto (pc := 191) 260 C dX8_does_191 (by decide) ?_
              exact a_sub [2, 3, 1, 0] rfl (hk260 (v31, v34, M35) hf)
            · rw [if_neg hs24] at hf
              by_cases hs37 : x2 = 2
              · rw [if_pos hs37] at hf
                refine a_tabIn (pc := 92) (off := 102) 194 C dX8_does_92 (by rw [hs37]; decide) (by rw [hs37]; decide) (by rw [hs37]; rfl) (by decide) ?_
                refine a_aload_n (pc := 194) C dX8_does_194 2 rfl ?_
                refine a_lload (pc := 195) C dX8_does_195 5 rfl ?_
                refine a_lload (pc := 197) C dX8_does_197 7 rfl ?_
                refine a_callV_J (pc := 199) (d' := 1) C dX8_does_199 ml_X8_285 mc_X8_times mv_X8_times tm_0 rfl [.long v3, .long v5] rfl (Nat.le_of_ble_eq_true rfl) (Nat.le_of_ble_eq_true rfl) rfl (Nat.le_of_ble_eq_true rfl) (fun r M' h => c_X8_times N v3 v5  _  r M' h) hf (fun v38 M39 hf => ?_)
                refine a_lstore (pc := 202) [(13, .long v38), (15, .long (0 : Int64)), (0, .ref (ad 0)), (1, .int x1), (2, .int x2), (5, .long v3), (7, .long v4), (9, .long v5), (11, .long v6)] C dX8_does_202 (by decide) rfl ?_
                refine a_aload_n (pc := 204) C dX8_does_204 2 rfl ?_
                refine a_lload (pc := 205) C dX8_does_205 6 rfl ?_
                refine a_lload (pc := 207) C dX8_does_207 8 rfl ?_
                refine a_callV_J (pc := 209) (d' := 1) C dX8_does_209 ml_X8_285 mc_X8_times mv_X8_times tm_0 rfl [.long v4, .long v6] rfl (Nat.le_of_ble_eq_true rfl) (Nat.le_of_ble_eq_true rfl) rfl (Nat.le_of_ble_eq_true rfl) (fun r M' h => c_X8_times N v4 v6  _  r M' h) hf (fun v41 M42 hf => ?_)
                refine a_lstore (pc := 212) [(15, .long v41), (13, .long v38), (0, .ref (ad 0)), (1, .int x1), (2, .int x2), (5, .long v3), (7, .long v4), (9, .long v5), (11, .long v6)] C dX8_does_212 (by decide) rfl ?_
                refine a_goto (pc := 214) 260 C dX8_does_214 (by decide) ?_
                exact a_sub [2, 3, 1, 0] rfl (hk260 (v38, v41, M42) hf)
              · rw [if_neg hs37] at hf
                by_cases hs44 : x2 = 3
                · rw [if_pos hs44] at hf
                  refine a_tabIn (pc := 92) (off := 125) 217 C dX8_does_92 (by rw [hs44]; decide) (by rw [hs44]; decide) (by rw [hs44]; rfl) (by decide) ?_
                  refine a_aload_n (pc := 217) C dX8_does_217 2 rfl ?_
                  refine a_lload (pc := 218) C dX8_does_218 5 rfl ?_
                  refine a_lload (pc := 220) C dX8_does_220 8 rfl ?_
                  refine a_callV_J (pc := 222) (d' := 1) C dX8_does_222 ml_X8_285 mc_X8_times mv_X8_times tm_0 rfl [.long v3, .long v6] rfl (Nat.le_of_ble_eq_true rfl) (Nat.le_of_ble_eq_true rfl) rfl (Nat.le_of_ble_eq_true rfl) (fun r M' h => c_X8_times N v3 v6  _  r M' h) hf (fun v45 M46 hf => ?_)
                  refine a_lstore (pc := 225) [(13, .long v45), (15, .long (0 : Int64)), (0, .ref (ad 0)), (1, .int x1), (2, .int x2), (5, .long v3), (7, .long v4), (9, .long v5), (11, .long v6)] C dX8_does_225 (by decide) rfl ?_
                  refine a_aload_n (pc := 227) C dX8_does_227 2 rfl ?_
                  refine a_lload (pc := 228) C dX8_does_228 6 rfl ?_
                  refine a_lload (pc := 230) C dX8_does_230 7 rfl ?_
                  refine a_callV_J (pc := 232) (d' := 1) C dX8_does_232 ml_X8_285 mc_X8_times mv_X8_times tm_0 rfl [.long v4, .long v5] rfl (Nat.le_of_ble_eq_true rfl) (Nat.le_of_ble_eq_true rfl) rfl (Nat.le_of_ble_eq_true rfl) (fun r M' h => c_X8_times N v4 v5  _  r M' h) hf (fun v48 M49 hf => ?_)
                  refine a_lstore (pc := 235) [(15, .long v48), (13, .long v45), (0, .ref (ad 0)), (1, .int x1), (2, .int x2), (5, .long v3), (7, .long v4), (9, .long v5), (11, .long v6)] C dX8_does_235 (by decide) rfl ?_
                  refine a_goto (pc := 237) 260 C dX8_does_237 (by decide) ?_
                  exact a_sub [2, 3, 1, 0] rfl (hk260 (v45, v48, M49) hf)
                · rw [if_neg hs44] at hf
                  refine a_tabOut (pc := 92) 240 C dX8_does_92 (by have nhs11 := ne_toInt hs11 (k := 0) (by decide); have nhs24 := ne_toInt hs24 (k := 1) (by decide); have nhs37 := ne_toInt hs37 (k := 2) (by decide); have nhs44 := ne_toInt hs44 (k := 3) (by decide); omega) (by decide) ?_
                  refine a_aload_n (pc := 240) C dX8_does_240 2 rfl ?_
                  refine a_lload (pc := 241) C dX8_does_241 5 rfl ?_
                  refine a_lload (pc := 243) C dX8_does_243 7 rfl ?_
                  refine a_callV_J (pc := 245) (d' := 1) C dX8_does_245 ml_X8_289 mc_X8_plus mv_X8_plus tm_0 rfl [.long v3, .long v5] rfl (Nat.le_of_ble_eq_true rfl) (Nat.le_of_ble_eq_true rfl) rfl (Nat.le_of_ble_eq_true rfl) (fun r M' h => c_X8_plus N v3 v5  _  r M' h) hf (fun v51 M52 hf => ?_)
                  refine a_lstore (pc := 248) [(13, .long v51), (15, .long (0 : Int64)), (0, .ref (ad 0)), (1, .int x1), (2, .int x2), (5, .long v3), (7, .long v4), (9, .long v5), (11, .long v6)] C dX8_does_248 (by decide) rfl ?_
                  refine a_aload_n (pc := 250) C dX8_does_250 2 rfl ?_
                  refine a_lload (pc := 251) C dX8_does_251 6 rfl ?_
                  refine a_lload (pc := 253) C dX8_does_253 8 rfl ?_
                  refine a_callV_J (pc := 255) (d' := 1) C dX8_does_255 ml_X8_289 mc_X8_plus mv_X8_plus tm_0 rfl [.long v4, .long v6] rfl (Nat.le_of_ble_eq_true rfl) (Nat.le_of_ble_eq_true rfl) rfl (Nat.le_of_ble_eq_true rfl) (fun r M' h => c_X8_plus N v4 v6  _  r M' h) hf (fun v54 M55 hf => ?_)
                  refine a_lstore (pc := 258) [(15, .long v54), (13, .long v51), (0, .ref (ad 0)), (1, .int x1), (2, .int x2), (5, .long v3), (7, .long v4), (9, .long v5), (11, .long v6)] C dX8_does_258 (by decide) rfl ?_
                  exact a_sub [2, 3, 1, 0] rfl (hk260 (v51, v54, M55) hf)
      · refine a_icmp_ne (pc := 67) 80 C dX8_does_67 (by decide) hf (fun hf => ?_) (fun hf => ?_)
        · exact a_sub [5, 6, 7, 3, 2, 1, 0] rfl (hk80 () hf)
        · refine a_lload (pc := 70) C dX8_does_70 1 rfl ?_
          refine a_lconst (pc := 72) (v := 0) C dX8_does_72 (by decide) ?_
          refine a_lcmp (pc := 73) C dX8_does_73 ?_
          refine a_if_ne (pc := 74) 80 C dX8_does_74 (by decide) hf (fun hf => ?_) (fun hf => ?_)
          · exact a_sub [5, 6, 7, 3, 2, 1, 0] rfl (hk80 () hf)
          · refine a_bipush (pc := 77) (v := (-15)) C dX8_does_77 (by decide) ?_
            exact a_iret (pc := 79) C dX8_does_79 (so_1 hf) (so_2 hf)
    · refine a_iload (pc := 30) C dX8_does_30 0 rfl ?_
      exact a_iret (pc := 32) C dX8_does_32 (so_1 hf) (so_2 hf)
  · refine a_if_eq (pc := 9) 21 C dX8_does_9 (by decide) hf (fun hf => ?_) (fun hf => ?_)
    · refine a_bipush (pc := 21) (v := (-2)) C dX8_does_21 (by decide) ?_
      exact a_sub [0, 1, 2, 3] rfl (hk23 (-2 : Int32) hf)
    · refine a_aload_n (pc := 12) C dX8_does_12 0 rfl ?_
      refine a_iload_n (pc := 13) C dX8_does_13 1 rfl ?_
      refine a_iload_n (pc := 14) C dX8_does_14 3 rfl ?_
      refine a_callV_Ir (pc := 15) (d' := 3) C dX8_does_15 ml_X8_282 mc_X8_wrongHolds mv_X8_wrongHolds tm_0 rfl [.int x1, .int x3] rfl (Nat.le_of_ble_eq_true rfl) (Nat.le_of_ble_eq_true rfl) rfl (Nat.le_of_ble_eq_true rfl) (fun r h => c_X8_wrongHolds N x1 x3  _  r h) hf (fun v57 hf => ?_)
      refine a_goto (pc := 18) 23 C dX8_does_18 (by decide) ?_
      exact a_sub [0, 1, 2, 3] rfl (hk23 v57 hf)
theorem dX8_compare_0 : decode cX8_compare 0 = .ok (.aload_n 0, 1) := by decide +kernel
theorem dX8_compare_1 : decode cX8_compare 1 = .ok (.iload_n 1, 1) := by decide +kernel
theorem dX8_compare_2 : decode cX8_compare 2 = .ok (.iload_n 2, 1) := by decide +kernel
theorem dX8_compare_3 : decode cX8_compare 3 = .ok (.invokevirtual 282, 3) := by decide +kernel
theorem dX8_compare_6 : decode cX8_compare 6 = .ok (.istore_n 3, 1) := by decide +kernel
theorem dX8_compare_7 : decode cX8_compare 7 = .ok (.iload_n 3, 1) := by decide +kernel
theorem dX8_compare_8 : decode cX8_compare 8 = .ok (.ifCond .eq 5, 3) := by decide +kernel
theorem dX8_compare_11 : decode cX8_compare 11 = .ok (.iload_n 3, 1) := by decide +kernel
theorem dX8_compare_12 : decode cX8_compare 12 = .ok (.ireturn, 1) := by decide +kernel
theorem dX8_compare_13 : decode cX8_compare 13 = .ok (.aload_n 0, 1) := by decide +kernel
theorem dX8_compare_14 : decode cX8_compare 14 = .ok (.getfield 62, 3) := by decide +kernel
theorem dX8_compare_17 : decode cX8_compare 17 = .ok (.iload_n 1, 1) := by decide +kernel
theorem dX8_compare_18 : decode cX8_compare 18 = .ok (.laload, 1) := by decide +kernel
theorem dX8_compare_19 : decode cX8_compare 19 = .ok (.lstore 4, 2) := by decide +kernel
theorem dX8_compare_21 : decode cX8_compare 21 = .ok (.aload_n 0, 1) := by decide +kernel
theorem dX8_compare_22 : decode cX8_compare 22 = .ok (.getfield 65, 3) := by decide +kernel
theorem dX8_compare_25 : decode cX8_compare 25 = .ok (.iload_n 1, 1) := by decide +kernel
theorem dX8_compare_26 : decode cX8_compare 26 = .ok (.laload, 1) := by decide +kernel
theorem dX8_compare_27 : decode cX8_compare 27 = .ok (.lstore 6, 2) := by decide +kernel
theorem dX8_compare_29 : decode cX8_compare 29 = .ok (.aload_n 0, 1) := by decide +kernel
theorem dX8_compare_30 : decode cX8_compare 30 = .ok (.getfield 62, 3) := by decide +kernel
theorem dX8_compare_33 : decode cX8_compare 33 = .ok (.iload_n 2, 1) := by decide +kernel
theorem dX8_compare_34 : decode cX8_compare 34 = .ok (.laload, 1) := by decide +kernel
theorem dX8_compare_35 : decode cX8_compare 35 = .ok (.lstore 8, 2) := by decide +kernel
theorem dX8_compare_37 : decode cX8_compare 37 = .ok (.aload_n 0, 1) := by decide +kernel
theorem dX8_compare_38 : decode cX8_compare 38 = .ok (.getfield 65, 3) := by decide +kernel
theorem dX8_compare_41 : decode cX8_compare 41 = .ok (.iload_n 2, 1) := by decide +kernel
theorem dX8_compare_42 : decode cX8_compare 42 = .ok (.laload, 1) := by decide +kernel
theorem dX8_compare_43 : decode cX8_compare 43 = .ok (.lstore 10, 2) := by decide +kernel
theorem dX8_compare_45 : decode cX8_compare 45 = .ok (.lload 4, 2) := by decide +kernel
theorem dX8_compare_47 : decode cX8_compare 47 = .ok (.lload 6, 2) := by decide +kernel
theorem dX8_compare_49 : decode cX8_compare 49 = .ok (.invokestatic 295, 3) := by decide +kernel
theorem dX8_compare_52 : decode cX8_compare 52 = .ok (.lstore 12, 2) := by decide +kernel
theorem dX8_compare_54 : decode cX8_compare 54 = .ok (.lload 8, 2) := by decide +kernel
theorem dX8_compare_56 : decode cX8_compare 56 = .ok (.lload 10, 2) := by decide +kernel
theorem dX8_compare_58 : decode cX8_compare 58 = .ok (.invokestatic 295, 3) := by decide +kernel
theorem dX8_compare_61 : decode cX8_compare 61 = .ok (.lstore 14, 2) := by decide +kernel
theorem dX8_compare_63 : decode cX8_compare 63 = .ok (.lload 12, 2) := by decide +kernel
theorem dX8_compare_65 : decode cX8_compare 65 = .ok (.lload 14, 2) := by decide +kernel
theorem dX8_compare_67 : decode cX8_compare 67 = .ok (.lcmp, 1) := by decide +kernel
theorem dX8_compare_68 : decode cX8_compare 68 = .ok (.ifCond .eq 17, 3) := by decide +kernel
theorem dX8_compare_71 : decode cX8_compare 71 = .ok (.lload 12, 2) := by decide +kernel
theorem dX8_compare_73 : decode cX8_compare 73 = .ok (.lload 14, 2) := by decide +kernel
theorem dX8_compare_75 : decode cX8_compare 75 = .ok (.lcmp, 1) := by decide +kernel
theorem dX8_compare_76 : decode cX8_compare 76 = .ok (.ifCond .ge 7, 3) := by decide +kernel
theorem dX8_compare_79 : decode cX8_compare 79 = .ok (.iconst 0, 1) := by decide +kernel
theorem dX8_compare_80 : decode cX8_compare 80 = .ok (.goto 4, 3) := by decide +kernel
theorem dX8_compare_83 : decode cX8_compare 83 = .ok (.iconst 2, 1) := by decide +kernel
theorem dX8_compare_84 : decode cX8_compare 84 = .ok (.ireturn, 1) := by decide +kernel
theorem dX8_compare_85 : decode cX8_compare 85 = .ok (.lload 4, 2) := by decide +kernel
theorem dX8_compare_87 : decode cX8_compare 87 = .ok (.lload 12, 2) := by decide +kernel
theorem dX8_compare_89 : decode cX8_compare 89 = .ok (.lload 6, 2) := by decide +kernel
theorem dX8_compare_91 : decode cX8_compare 91 = .ok (.lmul, 1) := by decide +kernel
theorem dX8_compare_92 : decode cX8_compare 92 = .ok (.lsub, 1) := by decide +kernel
theorem dX8_compare_93 : decode cX8_compare 93 = .ok (.lstore 16, 2) := by decide +kernel
theorem dX8_compare_95 : decode cX8_compare 95 = .ok (.lload 8, 2) := by decide +kernel
theorem dX8_compare_97 : decode cX8_compare 97 = .ok (.lload 14, 2) := by decide +kernel
theorem dX8_compare_99 : decode cX8_compare 99 = .ok (.lload 10, 2) := by decide +kernel
theorem dX8_compare_101 : decode cX8_compare 101 = .ok (.lmul, 1) := by decide +kernel
theorem dX8_compare_102 : decode cX8_compare 102 = .ok (.lsub, 1) := by decide +kernel
theorem dX8_compare_103 : decode cX8_compare 103 = .ok (.lstore 18, 2) := by decide +kernel
theorem dX8_compare_105 : decode cX8_compare 105 = .ok (.lload 16, 2) := by decide +kernel
theorem dX8_compare_107 : decode cX8_compare 107 = .ok (.lconst 0, 1) := by decide +kernel
theorem dX8_compare_108 : decode cX8_compare 108 = .ok (.lcmp, 1) := by decide +kernel
theorem dX8_compare_109 : decode cX8_compare 109 = .ok (.ifCond .eq 10, 3) := by decide +kernel
theorem dX8_compare_112 : decode cX8_compare 112 = .ok (.lload 18, 2) := by decide +kernel
theorem dX8_compare_114 : decode cX8_compare 114 = .ok (.lconst 0, 1) := by decide +kernel
theorem dX8_compare_115 : decode cX8_compare 115 = .ok (.lcmp, 1) := by decide +kernel
theorem dX8_compare_116 : decode cX8_compare 116 = .ok (.ifCond .ne 28, 3) := by decide +kernel
theorem dX8_compare_119 : decode cX8_compare 119 = .ok (.lload 16, 2) := by decide +kernel
theorem dX8_compare_121 : decode cX8_compare 121 = .ok (.lload 18, 2) := by decide +kernel
theorem dX8_compare_123 : decode cX8_compare 123 = .ok (.lcmp, 1) := by decide +kernel
theorem dX8_compare_124 : decode cX8_compare 124 = .ok (.ifCond .ne 7, 3) := by decide +kernel
theorem dX8_compare_127 : decode cX8_compare 127 = .ok (.iconst 1, 1) := by decide +kernel
theorem dX8_compare_128 : decode cX8_compare 128 = .ok (.goto 15, 3) := by decide +kernel
theorem dX8_compare_131 : decode cX8_compare 131 = .ok (.lload 16, 2) := by decide +kernel
theorem dX8_compare_133 : decode cX8_compare 133 = .ok (.lconst 0, 1) := by decide +kernel
theorem dX8_compare_134 : decode cX8_compare 134 = .ok (.lcmp, 1) := by decide +kernel
theorem dX8_compare_135 : decode cX8_compare 135 = .ok (.ifCond .ne 7, 3) := by decide +kernel
theorem dX8_compare_138 : decode cX8_compare 138 = .ok (.iconst 0, 1) := by decide +kernel
theorem dX8_compare_139 : decode cX8_compare 139 = .ok (.goto 4, 3) := by decide +kernel
theorem dX8_compare_142 : decode cX8_compare 142 = .ok (.iconst 2, 1) := by decide +kernel
theorem dX8_compare_143 : decode cX8_compare 143 = .ok (.ireturn, 1) := by decide +kernel
theorem dX8_compare_144 : decode cX8_compare 144 = .ok (.lload 10, 2) := by decide +kernel
theorem dX8_compare_146 : decode cX8_compare 146 = .ok (.lstore 4, 2) := by decide +kernel
theorem dX8_compare_148 : decode cX8_compare 148 = .ok (.lload 6, 2) := by decide +kernel
theorem dX8_compare_150 : decode cX8_compare 150 = .ok (.lstore 8, 2) := by decide +kernel
theorem dX8_compare_152 : decode cX8_compare 152 = .ok (.lload 18, 2) := by decide +kernel
theorem dX8_compare_154 : decode cX8_compare 154 = .ok (.lstore 6, 2) := by decide +kernel
theorem dX8_compare_156 : decode cX8_compare 156 = .ok (.lload 16, 2) := by decide +kernel
theorem dX8_compare_158 : decode cX8_compare 158 = .ok (.lstore 10, 2) := by decide +kernel
theorem dX8_compare_160 : decode cX8_compare 160 = .ok (.goto (-115), 3) := by decide +kernel
def f_X8_compare (N : Nat) (x1 : Int32) (x2 : Int32) (M : Mem) : Option (Int32) := bd (f_X8_wrongHolds N x1 x2 M) (fun v1 => if v1 = 0 then (ck (inb x1 4) (nm (M.2 15 x1.toNatClampNeg) (fun v3 => ck (inb x1 4) (nm (M.2 16 x1.toNatClampNeg) (fun v4 => ck (inb x2 4) (nm (M.2 15 x2.toNatClampNeg) (fun v5 => ck (inb x2 4) (nm (M.2 16 x2.toNatClampNeg) (fun v6 => lp (fun (k45 : (Int64 × Int64 × Int64 × Int64) → Option (Int32)) (a45 : Int64 × Int64 × Int64 × Int64) => bd (f_X8_under N a45.1 a45.2.1 M) (fun v7 => bd (f_X8_under N a45.2.2.1 a45.2.2.2 M) (fun v9 => if (lg_cmp v7 v9) = 0 then (nm (a45.1 - (v7 * a45.2.1)) (fun v11 => nm (a45.2.2.1 - (v9 * a45.2.2.2)) (fun v12 => jn (fun (a119 : Unit) => if (lg_cmp v11 v12) = 0 then (some (1 : Int32)) else (if (lg_cmp v11 (0 : Int64)) = 0 then (some (0 : Int32)) else (some (2 : Int32)))) (fun (k119 : Unit → Option (Int32)) => if (lg_cmp v11 (0 : Int64)) = 0 then (k119 ()) else (if (lg_cmp v12 (0 : Int64)) = 0 then (k119 ()) else (k45 (a45.2.2.2, v12, a45.2.1, v11))))))) else (if 0 ≤ (lg_cmp v7 v9) then (some (2 : Int32)) else (some (0 : Int32)))))) N (v3, v4, v5, v6)))))))))) else (some v1))
set_option maxRecDepth 100000 in
set_option maxHeartbeats 4000000 in
theorem c_X8_compare {l : Launch} {D : va_G} {ac : Nat → ClassId} {A : Nat → Prop} {ad : Nat → Nat} {rest : va_W} (N : Nat) (x1 : Int32) (x2 : Int32)  (M : Mem) (r0 : Int32) (hf : f_X8_compare N x1 x2 M = some r0) : CtI l D ac A tabM ad rest yX8_compare cX8_compare 20 .int 4 [.ref (ad 0), .int x1, .int x2] M r0 M := by
  refine ct_ofI (own := RX8) (by decide +kernel) rfl (Nat.le_of_ble_eq_true rfl) ?_
  intro p e s m args below meth c C
  unfold f_X8_compare at hf
  refine a_L (L' := [(0, .ref (ad 0)), (1, .int x1), (2, .int x2)]) rfl ?_
  refine a_aload_n (pc := 0) C dX8_compare_0 0 rfl ?_
  refine a_iload_n (pc := 1) C dX8_compare_1 1 rfl ?_
  refine a_iload_n (pc := 2) C dX8_compare_2 2 rfl ?_
  refine a_callV_Ir (pc := 3) (d' := 3) C dX8_compare_3 ml_X8_282 mc_X8_wrongHolds mv_X8_wrongHolds tm_0 rfl [.int x1, .int x2] rfl (Nat.le_of_ble_eq_true rfl) (Nat.le_of_ble_eq_true rfl) rfl (Nat.le_of_ble_eq_true rfl) (fun r h => c_X8_wrongHolds N x1 x2  _  r h) hf (fun v1 hf => ?_)
  refine a_istore_n (pc := 6) [(3, .int v1), (0, .ref (ad 0)), (1, .int x1), (2, .int x2)] C dX8_compare_6 (by decide) rfl ?_
  refine a_iload_n (pc := 7) C dX8_compare_7 0 rfl ?_
  refine a_if_eq (pc := 8) 13 C dX8_compare_8 (by decide) hf (fun hf => ?_) (fun hf => ?_)
  · refine a_aload_n (pc := 13) C dX8_compare_13 1 rfl ?_
    refine a_getR (pc := 14) C dX8_compare_14 fl_X8_62 tm_0 rfl ?_
    refine a_iload_n (pc := 17) C dX8_compare_17 2 rfl ?_
    refine a_lald (pc := 18) C dX8_compare_18 tm_15 hf (fun hf => ?_)
    refine a_nml hf (fun v3 hf => ?_)
    refine a_lstore (pc := 19) [(4, .long v3), (3, .int v1), (0, .ref (ad 0)), (1, .int x1), (2, .int x2)] C dX8_compare_19 (by decide) rfl ?_
    refine a_aload_n (pc := 21) C dX8_compare_21 2 rfl ?_
    refine a_getR (pc := 22) C dX8_compare_22 fl_X8_65 tm_0 rfl ?_
    refine a_iload_n (pc := 25) C dX8_compare_25 3 rfl ?_
    refine a_lald (pc := 26) C dX8_compare_26 tm_16 hf (fun hf => ?_)
    refine a_nml hf (fun v4 hf => ?_)
    refine a_lstore (pc := 27) [(6, .long v4), (4, .long v3), (3, .int v1), (0, .ref (ad 0)), (1, .int x1), (2, .int x2)] C dX8_compare_27 (by decide) rfl ?_
    refine a_aload_n (pc := 29) C dX8_compare_29 3 rfl ?_
    refine a_getR (pc := 30) C dX8_compare_30 fl_X8_62 tm_0 rfl ?_
    refine a_iload_n (pc := 33) C dX8_compare_33 5 rfl ?_
    refine a_lald (pc := 34) C dX8_compare_34 tm_15 hf (fun hf => ?_)
    refine a_nml hf (fun v5 hf => ?_)
    refine a_lstore (pc := 35) [(8, .long v5), (6, .long v4), (4, .long v3), (3, .int v1), (0, .ref (ad 0)), (1, .int x1), (2, .int x2)] C dX8_compare_35 (by decide) rfl ?_
    refine a_aload_n (pc := 37) C dX8_compare_37 4 rfl ?_
    refine a_getR (pc := 38) C dX8_compare_38 fl_X8_65 tm_0 rfl ?_
    refine a_iload_n (pc := 41) C dX8_compare_41 6 rfl ?_
    refine a_lald (pc := 42) C dX8_compare_42 tm_16 hf (fun hf => ?_)
    refine a_nml hf (fun v6 hf => ?_)
    refine a_lstore (pc := 43) [(10, .long v6), (8, .long v5), (6, .long v4), (4, .long v3), (3, .int v1), (0, .ref (ad 0)), (1, .int x1), (2, .int x2)] C dX8_compare_43 (by decide) rfl ?_
    refine a_sub [3, 2, 1, 0] rfl ?_
    refine a_lp 45 (fun a45 : Int64 × Int64 × Int64 × Int64 => [(4, .long a45.1), (6, .long a45.2.1), (8, .long a45.2.2.1), (10, .long a45.2.2.2)]) (fun a45 : Int64 × Int64 × Int64 × Int64 => []) (fun a45 : Int64 × Int64 × Int64 × Int64 => M) (fun k45 a45 hk45 hf => ?_) N (v3, v4, v5, v6) hf
    refine a_lload (pc := 45) C dX8_compare_45 0 rfl ?_
    refine a_lload (pc := 47) C dX8_compare_47 1 rfl ?_
    refine a_callS_Jr (pc := 49) (d' := 1) C dX8_compare_49 ml_X8_295 mc_X8_under ms_X8_under [.long a45.1, .long a45.2.1] rfl (Nat.le_of_ble_eq_true rfl) (Nat.le_of_ble_eq_true rfl) rfl (Nat.le_of_ble_eq_true rfl) (fun r h => c_X8_under N a45.1 a45.2.1  _  r h) hf (fun v7 hf => ?_)
    refine a_lstore (pc := 52) [(12, .long v7), (4, .long a45.1), (6, .long a45.2.1), (8, .long a45.2.2.1), (10, .long a45.2.2.2)] C dX8_compare_52 (by decide) rfl ?_
    refine a_lload (pc := 54) C dX8_compare_54 3 rfl ?_
    refine a_lload (pc := 56) C dX8_compare_56 4 rfl ?_
    refine a_callS_Jr (pc := 58) (d' := 1) C dX8_compare_58 ml_X8_295 mc_X8_under ms_X8_under [.long a45.2.2.1, .long a45.2.2.2] rfl (Nat.le_of_ble_eq_true rfl) (Nat.le_of_ble_eq_true rfl) rfl (Nat.le_of_ble_eq_true rfl) (fun r h => c_X8_under N a45.2.2.1 a45.2.2.2  _  r h) hf (fun v9 hf => ?_)
    refine a_lstore (pc := 61) [(14, .long v9), (12, .long v7), (4, .long a45.1), (6, .long a45.2.1), (8, .long a45.2.2.1), (10, .long a45.2.2.2)] C dX8_compare_61 (by decide) rfl ?_
    refine a_lload (pc := 63) C dX8_compare_63 1 rfl ?_
    refine a_lload (pc := 65) C dX8_compare_65 0 rfl ?_
    refine a_lcmp (pc := 67) C dX8_compare_67 ?_
    refine a_if_eq (pc := 68) 85 C dX8_compare_68 (by decide) hf (fun hf => ?_) (fun hf => ?_)
    · refine a_lload (pc := 85) C dX8_compare_85 2 rfl ?_
      refine a_lload (pc := 87) C dX8_compare_87 1 rfl ?_
      refine a_lload (pc := 89) C dX8_compare_89 3 rfl ?_
      refine a_lmul (pc := 91) C dX8_compare_91 ?_
      refine a_lsub (pc := 92) C dX8_compare_92 ?_
      refine a_nml hf (fun v11 hf => ?_)
      refine a_lstore (pc := 93) [(16, .long v11), (14, .long v9), (12, .long v7), (4, .long a45.1), (6, .long a45.2.1), (8, .long a45.2.2.1), (10, .long a45.2.2.2)] C dX8_compare_93 (by decide) rfl ?_
      refine a_lload (pc := 95) C dX8_compare_95 5 rfl ?_
      refine a_lload (pc := 97) C dX8_compare_97 1 rfl ?_
      refine a_lload (pc := 99) C dX8_compare_99 6 rfl ?_
      refine a_lmul (pc := 101) C dX8_compare_101 ?_
      refine a_lsub (pc := 102) C dX8_compare_102 ?_
      refine a_nml hf (fun v12 hf => ?_)
      refine a_lstore (pc := 103) [(18, .long v12), (16, .long v11), (14, .long v9), (12, .long v7), (4, .long a45.1), (6, .long a45.2.1), (8, .long a45.2.2.1), (10, .long a45.2.2.2)] C dX8_compare_103 (by decide) rfl ?_
      refine a_lload (pc := 105) C dX8_compare_105 1 rfl ?_
      refine a_lconst (pc := 107) (v := 0) C dX8_compare_107 (by decide) ?_
      refine a_lcmp (pc := 108) C dX8_compare_108 ?_
      refine a_jn 119 (fun a119 : Unit => [(16, .long v11), (18, .long v12)]) (fun a119 : Unit => []) (fun a119 : Unit => M) hf (fun a119 hf => ?_) (fun k119 hk119 hf => ?_)
      · refine a_lload (pc := 119) C dX8_compare_119 0 rfl ?_
        refine a_lload (pc := 121) C dX8_compare_121 1 rfl ?_
        refine a_lcmp (pc := 123) C dX8_compare_123 ?_
        refine a_if_ne (pc := 124) 131 C dX8_compare_124 (by decide) hf (fun hf => ?_) (fun hf => ?_)
        · refine a_lload (pc := 131) C dX8_compare_131 0 rfl ?_
          refine a_lconst (pc := 133) (v := 0) C dX8_compare_133 (by decide) ?_
          refine a_lcmp (pc := 134) C dX8_compare_134 ?_
          refine a_if_ne (pc := 135) 142 C dX8_compare_135 (by decide) hf (fun hf => ?_) (fun hf => ?_)
          · refine a_iconst (pc := 142) (v := 2) C dX8_compare_142 (by decide) ?_
            exact a_iret (pc := 143) C dX8_compare_143 (Option.some.inj hf) rfl
          · refine a_iconst (pc := 138) (v := 0) C dX8_compare_138 (by decide) ?_
            refine a_goto (pc := 139) 143 C dX8_compare_139 (by decide) ?_
            exact a_iret (pc := 143) C dX8_compare_143 (Option.some.inj hf) rfl
        · refine a_iconst (pc := 127) (v := 1) C dX8_compare_127 (by decide) ?_
          refine a_goto (pc := 128) 143 C dX8_compare_128 (by decide) ?_
          exact a_iret (pc := 143) C dX8_compare_143 (Option.some.inj hf) rfl
      · refine a_if_eq (pc := 109) 119 C dX8_compare_109 (by decide) hf (fun hf => ?_) (fun hf => ?_)
        · exact a_sub [1, 0] rfl (hk119 () hf)
        · refine a_lload (pc := 112) C dX8_compare_112 0 rfl ?_
          refine a_lconst (pc := 114) (v := 0) C dX8_compare_114 (by decide) ?_
          refine a_lcmp (pc := 115) C dX8_compare_115 ?_
          refine a_if_ne (pc := 116) 144 C dX8_compare_116 (by decide) hf (fun hf => ?_) (fun hf => ?_)
          · refine a_lload (pc := 144) C dX8_compare_144 7 rfl ?_
            refine a_lstore (pc := 146) [(4, .long a45.2.2.2), (18, .long v12), (16, .long v11), (14, .long v9), (12, .long v7), (6, .long a45.2.1), (8, .long a45.2.2.1), (10, .long a45.2.2.2)] C dX8_compare_146 (by decide) rfl ?_
            refine a_lload (pc := 148) C dX8_compare_148 5 rfl ?_
            refine a_lstore (pc := 150) [(8, .long a45.2.1), (4, .long a45.2.2.2), (18, .long v12), (16, .long v11), (14, .long v9), (12, .long v7), (6, .long a45.2.1), (10, .long a45.2.2.2)] C dX8_compare_150 (by decide) rfl ?_
            refine a_lload (pc := 152) C dX8_compare_152 2 rfl ?_
            refine a_lstore (pc := 154) [(6, .long v12), (8, .long a45.2.1), (4, .long a45.2.2.2), (18, .long v12), (16, .long v11), (14, .long v9), (12, .long v7), (10, .long a45.2.2.2)] C dX8_compare_154 (by decide) rfl ?_
            refine a_lload (pc := 156) C dX8_compare_156 4 rfl ?_
            refine a_lstore (pc := 158) [(10, .long v11), (6, .long v12), (8, .long a45.2.1), (4, .long a45.2.2.2), (18, .long v12), (16, .long v11), (14, .long v9), (12, .long v7)] C dX8_compare_158 (by decide) rfl ?_
            refine a_goto (pc := 160) 45 C dX8_compare_160 (by decide) ?_
            exact a_sub [3, 1, 2, 0] rfl (hk45 (a45.2.2.2, v12, a45.2.1, v11) hf)
          · exact a_sub [1, 0] rfl (hk119 () hf)
    · refine a_lload (pc := 71) C dX8_compare_71 1 rfl ?_
      refine a_lload (pc := 73) C dX8_compare_73 0 rfl ?_
      refine a_lcmp (pc := 75) C dX8_compare_75 ?_
      refine a_if_ge (pc := 76) 83 C dX8_compare_76 (by decide) hf (fun hf => ?_) (fun hf => ?_)
      · refine a_iconst (pc := 83) (v := 2) C dX8_compare_83 (by decide) ?_
        exact a_iret (pc := 84) C dX8_compare_84 (Option.some.inj hf) rfl
      · refine a_iconst (pc := 79) (v := 0) C dX8_compare_79 (by decide) ?_
        refine a_goto (pc := 80) 84 C dX8_compare_80 (by decide) ?_
        exact a_iret (pc := 84) C dX8_compare_84 (Option.some.inj hf) rfl
  · refine a_iload_n (pc := 11) C dX8_compare_11 0 rfl ?_
    exact a_iret (pc := 12) C dX8_compare_12 (Option.some.inj hf) rfl
