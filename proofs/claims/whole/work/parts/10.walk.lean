theorem dX0_thingTold_0 : decode cX0_thingTold 0 = .ok (.iload_n 0, 1) := by decide +kernel
theorem dX0_thingTold_1 : decode cX0_thingTold 1 = .ok (.iconst 3, 1) := by decide +kernel
theorem dX0_thingTold_2 : decode cX0_thingTold 2 = .ok (.if_icmp .ge 5, 3) := by decide +kernel
theorem dX0_thingTold_5 : decode cX0_thingTold 5 = .ok (.iconst 1, 1) := by decide +kernel
theorem dX0_thingTold_6 : decode cX0_thingTold 6 = .ok (.ireturn, 1) := by decide +kernel
theorem dX0_thingTold_7 : decode cX0_thingTold 7 = .ok (.iload_n 0, 1) := by decide +kernel
theorem dX0_thingTold_8 : decode cX0_thingTold 8 = .ok (.iconst 5, 1) := by decide +kernel
theorem dX0_thingTold_9 : decode cX0_thingTold 9 = .ok (.if_icmp .ge 7, 3) := by decide +kernel
theorem dX0_thingTold_12 : decode cX0_thingTold 12 = .ok (.iconst 2, 1) := by decide +kernel
theorem dX0_thingTold_13 : decode cX0_thingTold 13 = .ok (.goto 4, 3) := by decide +kernel
theorem dX0_thingTold_16 : decode cX0_thingTold 16 = .ok (.iconst 3, 1) := by decide +kernel
theorem dX0_thingTold_17 : decode cX0_thingTold 17 = .ok (.ireturn, 1) := by decide +kernel
def f_X0_thingTold (N : Nat) (x0 : Int32) (M : Mem) : Option (Int32) := if (3 : Int32) ≤ x0 then (if (5 : Int32) ≤ x0 then (some (3 : Int32)) else (some (2 : Int32))) else (some (1 : Int32))
set_option maxRecDepth 100000 in
set_option maxHeartbeats 4000000 in
theorem c_X0_thingTold {l : Launch} {D : va_G} {ac : Nat → ClassId} {A : Nat → Prop} {ad : Nat → Nat} {rest : va_W} (N : Nat) (x0 : Int32)  (M : Mem) (r0 : Int32) (hf : f_X0_thingTold N x0 M = some r0) : CtI l D ac A tabX ad rest yX0_thingTold cX0_thingTold 1 .int 1 [.int x0] M r0 M := by
  refine ct_ofI (own := RX0) (by decide +kernel) rfl (Nat.le_of_ble_eq_true rfl) ?_
  intro p e s m args below meth c C
  unfold f_X0_thingTold at hf
  refine a_L (L' := [(0, .int x0)]) rfl ?_
  refine a_iload_n (pc := 0) C dX0_thingTold_0 0 rfl ?_
  refine a_iconst (pc := 1) (v := 3) C dX0_thingTold_1 (by decide) ?_
  refine a_icmp_ge (pc := 2) 7 C dX0_thingTold_2 (by decide) hf (fun hf => ?_) (fun hf => ?_)
  · refine a_iload_n (pc := 7) C dX0_thingTold_7 0 rfl ?_
    refine a_iconst (pc := 8) (v := 5) C dX0_thingTold_8 (by decide) ?_
    refine a_icmp_ge (pc := 9) 16 C dX0_thingTold_9 (by decide) hf (fun hf => ?_) (fun hf => ?_)
    · refine a_iconst (pc := 16) (v := 3) C dX0_thingTold_16 (by decide) ?_
      exact a_iret (pc := 17) C dX0_thingTold_17 (Option.some.inj hf) rfl
    · refine a_iconst (pc := 12) (v := 2) C dX0_thingTold_12 (by decide) ?_
      refine a_goto (pc := 13) 17 C dX0_thingTold_13 (by decide) ?_
      exact a_iret (pc := 17) C dX0_thingTold_17 (Option.some.inj hf) rfl
  · refine a_iconst (pc := 5) (v := 1) C dX0_thingTold_5 (by decide) ?_
    exact a_iret (pc := 6) C dX0_thingTold_6 (Option.some.inj hf) rfl
theorem dX0_takeLine_0 : decode cX0_takeLine 0 = .ok (.aload_n 0, 1) := by decide +kernel
theorem dX0_takeLine_1 : decode cX0_takeLine 1 = .ok (.iconst 2, 1) := by decide +kernel
theorem dX0_takeLine_2 : decode cX0_takeLine 2 = .ok (.putfield 11, 3) := by decide +kernel
theorem dX0_takeLine_5 : decode cX0_takeLine 5 = .ok (.aload_n 0, 1) := by decide +kernel
theorem dX0_takeLine_6 : decode cX0_takeLine 6 = .ok (.iload_n 1, 1) := by decide +kernel
theorem dX0_takeLine_7 : decode cX0_takeLine 7 = .ok (.putfield 15, 3) := by decide +kernel
theorem dX0_takeLine_10 : decode cX0_takeLine 10 = .ok (.aload_n 0, 1) := by decide +kernel
theorem dX0_takeLine_11 : decode cX0_takeLine 11 = .ok (.iload_n 2, 1) := by decide +kernel
theorem dX0_takeLine_12 : decode cX0_takeLine 12 = .ok (.putfield 18, 3) := by decide +kernel
theorem dX0_takeLine_15 : decode cX0_takeLine 15 = .ok (.return_, 1) := by decide +kernel
def f_X0_takeLine (N : Nat) (c0 : Nat) (x1 : Int32) (x2 : Int32) (M : Mem) : Option (Mem) := nm (setI M c0 0 (2 : Int32)) (fun M1 => nm (setI M1 c0 3 x1) (fun M2 => nm (setI M2 c0 4 x2) (fun M3 => some M3)))
set_option maxRecDepth 100000 in
set_option maxHeartbeats 4000000 in
theorem c_X0_takeLine {l : Launch} {D : va_G} {ac : Nat → ClassId} {A : Nat → Prop} {ad : Nat → Nat} {rest : va_W} (N : Nat) (c0 : Nat) (x1 : Int32) (x2 : Int32) (hc0 : HoldAt tabX c0) (M : Mem)  (M0 : Mem) (hf : f_X0_takeLine N c0 x1 x2 M = some M0) : CtV l D ac A tabX ad rest yX0_takeLine cX0_takeLine 3  1 [.ref (ad c0), .int x1, .int x2] M  M0 := by
  refine ct_ofV (own := RX0) (by decide +kernel) rfl (Nat.le_of_ble_eq_true rfl) ?_
  intro p e s m args below meth c C
  unfold f_X0_takeLine at hf
  refine a_L (L' := [(0, .ref (ad c0)), (1, .int x1), (2, .int x2)]) rfl ?_
  refine a_aload_n (pc := 0) C dX0_takeLine_0 0 rfl ?_
  refine a_iconst (pc := 1) (v := 2) C dX0_takeLine_1 (by decide) ?_
  refine a_putI (pc := 2) C dX0_takeLine_2 fl_X0_11 hc0 rfl hf (fun M1 hf => ?_)
  refine a_aload_n (pc := 5) C dX0_takeLine_5 0 rfl ?_
  refine a_iload_n (pc := 6) C dX0_takeLine_6 1 rfl ?_
  refine a_putI (pc := 7) C dX0_takeLine_7 fl_X0_15 hc0 rfl hf (fun M2 hf => ?_)
  refine a_aload_n (pc := 10) C dX0_takeLine_10 0 rfl ?_
  refine a_iload_n (pc := 11) C dX0_takeLine_11 2 rfl ?_
  refine a_putI (pc := 12) C dX0_takeLine_12 fl_X0_18 hc0 rfl hf (fun M3 hf => ?_)
  exact a_vret (pc := 15) C dX0_takeLine_15 (Option.some.inj hf)
theorem dX0_takeRow_0 : decode cX0_takeRow 0 = .ok (.aload_n 0, 1) := by decide +kernel
theorem dX0_takeRow_1 : decode cX0_takeRow 1 = .ok (.iconst 3, 1) := by decide +kernel
theorem dX0_takeRow_2 : decode cX0_takeRow 2 = .ok (.putfield 11, 3) := by decide +kernel
theorem dX0_takeRow_5 : decode cX0_takeRow 5 = .ok (.aload_n 0, 1) := by decide +kernel
theorem dX0_takeRow_6 : decode cX0_takeRow 6 = .ok (.aload_n 1, 1) := by decide +kernel
theorem dX0_takeRow_7 : decode cX0_takeRow 7 = .ok (.getfield 21, 3) := by decide +kernel
theorem dX0_takeRow_10 : decode cX0_takeRow 10 = .ok (.putfield 26, 3) := by decide +kernel
theorem dX0_takeRow_13 : decode cX0_takeRow 13 = .ok (.aload_n 0, 1) := by decide +kernel
theorem dX0_takeRow_14 : decode cX0_takeRow 14 = .ok (.lconst 0, 1) := by decide +kernel
theorem dX0_takeRow_15 : decode cX0_takeRow 15 = .ok (.putfield 27, 3) := by decide +kernel
theorem dX0_takeRow_18 : decode cX0_takeRow 18 = .ok (.iconst 0, 1) := by decide +kernel
theorem dX0_takeRow_19 : decode cX0_takeRow 19 = .ok (.istore_n 2, 1) := by decide +kernel
theorem dX0_takeRow_20 : decode cX0_takeRow 20 = .ok (.iload_n 2, 1) := by decide +kernel
theorem dX0_takeRow_21 : decode cX0_takeRow 21 = .ok (.aload_n 1, 1) := by decide +kernel
theorem dX0_takeRow_22 : decode cX0_takeRow 22 = .ok (.getfield 21, 3) := by decide +kernel
theorem dX0_takeRow_25 : decode cX0_takeRow 25 = .ok (.if_icmp .ge 24, 3) := by decide +kernel
theorem dX0_takeRow_28 : decode cX0_takeRow 28 = .ok (.aload_n 0, 1) := by decide +kernel
theorem dX0_takeRow_29 : decode cX0_takeRow 29 = .ok (.dup, 1) := by decide +kernel
theorem dX0_takeRow_30 : decode cX0_takeRow 30 = .ok (.getfield 27, 3) := by decide +kernel
theorem dX0_takeRow_33 : decode cX0_takeRow 33 = .ok (.aload_n 1, 1) := by decide +kernel
theorem dX0_takeRow_34 : decode cX0_takeRow 34 = .ok (.getfield 31, 3) := by decide +kernel
theorem dX0_takeRow_37 : decode cX0_takeRow 37 = .ok (.iload_n 2, 1) := by decide +kernel
theorem dX0_takeRow_38 : decode cX0_takeRow 38 = .ok (.laload, 1) := by decide +kernel
theorem dX0_takeRow_39 : decode cX0_takeRow 39 = .ok (.ladd, 1) := by decide +kernel
theorem dX0_takeRow_40 : decode cX0_takeRow 40 = .ok (.putfield 27, 3) := by decide +kernel
theorem dX0_takeRow_43 : decode cX0_takeRow 43 = .ok (.iinc 2 1, 3) := by decide +kernel
theorem dX0_takeRow_46 : decode cX0_takeRow 46 = .ok (.goto (-26), 3) := by decide +kernel
theorem dX0_takeRow_49 : decode cX0_takeRow 49 = .ok (.return_, 1) := by decide +kernel
def f_X0_takeRow (N : Nat) (c0 : Nat) (c1 : Nat) (M : Mem) : Option (Mem) := nm (setI M c0 0 (3 : Int32)) (fun M1 => nm (setI M1 c0 5 (M1.1 c1 1)) (fun M2 => nm (setJ M2 c0 6 (0 : Int64)) (fun M3 => lp (fun (k20 : (Int32 × Mem) → Option (Mem)) (a20 : Int32 × Mem) => if (a20.2.1 c1 1) ≤ a20.1 then (some a20.2) else (ck (inb a20.1 40) (nm (setJ a20.2 c0 6 ((a20.2.2 c0 6) + (a20.2.2 (c1 + 1) a20.1.toNatClampNeg))) (fun M4 => nm (a20.1 + (1 : Int32)) (fun v5 => k20 (v5, M4)))))) N ((0 : Int32), M3))))
set_option maxRecDepth 100000 in
set_option maxHeartbeats 4000000 in
theorem c_X0_takeRow {l : Launch} {D : va_G} {ac : Nat → ClassId} {A : Nat → Prop} {ad : Nat → Nat} {rest : va_W} (N : Nat) (c0 : Nat) (c1 : Nat) (hc0 : HoldAt tabX c0) (hc1 : SheetAt tabX c1) (M : Mem)  (M0 : Mem) (hf : f_X0_takeRow N c0 c1 M = some M0) : CtV l D ac A tabX ad rest yX0_takeRow cX0_takeRow 3  1 [.ref (ad c0), .ref (ad c1)] M  M0 := by
  refine ct_ofV (own := RX0) (by decide +kernel) rfl (Nat.le_of_ble_eq_true rfl) ?_
  intro p e s m args below meth c C
  unfold f_X0_takeRow at hf
  refine a_L (L' := [(0, .ref (ad c0)), (1, .ref (ad c1))]) rfl ?_
  refine a_aload_n (pc := 0) C dX0_takeRow_0 0 rfl ?_
  refine a_iconst (pc := 1) (v := 3) C dX0_takeRow_1 (by decide) ?_
  refine a_putI (pc := 2) C dX0_takeRow_2 fl_X0_11 hc0 rfl hf (fun M1 hf => ?_)
  refine a_aload_n (pc := 5) C dX0_takeRow_5 0 rfl ?_
  refine a_aload_n (pc := 6) C dX0_takeRow_6 1 rfl ?_
  refine a_getI (pc := 7) C dX0_takeRow_7 fl_X0_21 hc1.1 rfl ?_
  refine a_putI (pc := 10) C dX0_takeRow_10 fl_X0_26 hc0 rfl hf (fun M2 hf => ?_)
  refine a_aload_n (pc := 13) C dX0_takeRow_13 0 rfl ?_
  refine a_lconst (pc := 14) (v := 0) C dX0_takeRow_14 (by decide) ?_
  refine a_putJ (pc := 15) C dX0_takeRow_15 fl_X0_27 hc0 rfl hf (fun M3 hf => ?_)
  refine a_iconst (pc := 18) (v := 0) C dX0_takeRow_18 (by decide) ?_
  refine a_istore_n (pc := 19) [(2, .int (0 : Int32)), (0, .ref (ad c0)), (1, .ref (ad c1))] C dX0_takeRow_19 (by decide) rfl ?_
  refine a_sub [1, 2, 0] rfl ?_
  refine a_lp 20 (fun a20 : Int32 × Mem => [(0, .ref (ad c0)), (1, .ref (ad c1)), (2, .int a20.1)]) (fun a20 : Int32 × Mem => []) (fun a20 : Int32 × Mem => a20.2) (fun k20 a20 hk20 hf => ?_) N ((0 : Int32), M3) hf
  refine a_iload_n (pc := 20) C dX0_takeRow_20 2 rfl ?_
  refine a_aload_n (pc := 21) C dX0_takeRow_21 1 rfl ?_
  refine a_getI (pc := 22) C dX0_takeRow_22 fl_X0_21 hc1.1 rfl ?_
  refine a_icmp_ge (pc := 25) 49 C dX0_takeRow_25 (by decide) hf (fun hf => ?_) (fun hf => ?_)
  · exact a_vret (pc := 49) C dX0_takeRow_49 (Option.some.inj hf)
  · refine a_aload_n (pc := 28) C dX0_takeRow_28 0 rfl ?_
    refine a_dup (pc := 29) C dX0_takeRow_29 rfl ?_
    refine a_getJ (pc := 30) C dX0_takeRow_30 fl_X0_27 hc0 rfl ?_
    refine a_aload_n (pc := 33) C dX0_takeRow_33 1 rfl ?_
    refine a_getR (pc := 34) C dX0_takeRow_34 fl_X0_31 hc1.1 rfl ?_
    refine a_iload_n (pc := 37) C dX0_takeRow_37 2 rfl ?_
    refine a_lald (pc := 38) C dX0_takeRow_38 hc1.2 hf (fun hf => ?_)
    refine a_ladd (pc := 39) C dX0_takeRow_39 ?_
    refine a_putJ (pc := 40) C dX0_takeRow_40 fl_X0_27 hc0 rfl hf (fun M4 hf => ?_)
    refine a_iinc (pc := 43) (v := 1) (fun v5 => [(2, .int v5), (0, .ref (ad c0)), (1, .ref (ad c1))]) C dX0_takeRow_43 2 rfl (by decide) (by decide) (fun _ => rfl) hf (fun v5 hf => ?_)
    refine a_goto (pc := 46) 20 C dX0_takeRow_46 (by decide) ?_
    exact a_sub [1, 2, 0] rfl (hk20 (v5, M4) hf)
theorem dX1_hasPoint_0 : decode cX1_hasPoint 0 = .ok (.iload_n 1, 1) := by decide +kernel
theorem dX1_hasPoint_1 : decode cX1_hasPoint 1 = .ok (.ifCond .lt 15, 3) := by decide +kernel
theorem dX1_hasPoint_4 : decode cX1_hasPoint 4 = .ok (.iload_n 1, 1) := by decide +kernel
theorem dX1_hasPoint_5 : decode cX1_hasPoint 5 = .ok (.aload_n 0, 1) := by decide +kernel
theorem dX1_hasPoint_6 : decode cX1_hasPoint 6 = .ok (.getfield 32, 3) := by decide +kernel
theorem dX1_hasPoint_9 : decode cX1_hasPoint 9 = .ok (.if_icmp .ge 7, 3) := by decide +kernel
theorem dX1_hasPoint_12 : decode cX1_hasPoint 12 = .ok (.iconst 1, 1) := by decide +kernel
theorem dX1_hasPoint_13 : decode cX1_hasPoint 13 = .ok (.goto 4, 3) := by decide +kernel
theorem dX1_hasPoint_16 : decode cX1_hasPoint 16 = .ok (.iconst 0, 1) := by decide +kernel
theorem dX1_hasPoint_17 : decode cX1_hasPoint 17 = .ok (.ireturn, 1) := by decide +kernel
def f_X1_hasPoint (N : Nat) (c0 : Nat) (x1 : Int32) (M : Mem) : Option (Int32) := jn (fun (a16 : Unit) => some (0 : Int32)) (fun (k16 : Unit → Option (Int32)) => if x1 < 0 then (k16 ()) else (if (M.1 c0 0) ≤ x1 then (k16 ()) else (some (1 : Int32))))
set_option maxRecDepth 100000 in
set_option maxHeartbeats 4000000 in
theorem c_X1_hasPoint {l : Launch} {D : va_G} {ac : Nat → ClassId} {A : Nat → Prop} {ad : Nat → Nat} {rest : va_W} (N : Nat) (c0 : Nat) (x1 : Int32) (hc0 : NetAt tabX c0) (M : Mem) (r0 : Int32) (hf : f_X1_hasPoint N c0 x1 M = some r0) : CtI l D ac A tabX ad rest yX1_hasPoint cX1_hasPoint 2 .boolean 1 [.ref (ad c0), .int x1] M r0 M := by
  refine ct_ofI (own := RX1) (by decide +kernel) rfl (Nat.le_of_ble_eq_true rfl) ?_
  intro p e s m args below meth c C
  unfold f_X1_hasPoint at hf
  refine a_L (L' := [(0, .ref (ad c0)), (1, .int x1)]) rfl ?_
  refine a_iload_n (pc := 0) C dX1_hasPoint_0 1 rfl ?_
  refine a_jn 16 (fun a16 : Unit => []) (fun a16 : Unit => []) (fun a16 : Unit => M) hf (fun a16 hf => ?_) (fun k16 hk16 hf => ?_)
  · refine a_iconst (pc := 16) (v := 0) C dX1_hasPoint_16 (by decide) ?_
    exact a_zret (pc := 17) C dX1_hasPoint_17 (Or.inl rfl) (Option.some.inj hf) rfl
  · refine a_if_lt (pc := 1) 16 C dX1_hasPoint_1 (by decide) hf (fun hf => ?_) (fun hf => ?_)
    · exact a_sub [] rfl (hk16 () hf)
    · refine a_iload_n (pc := 4) C dX1_hasPoint_4 1 rfl ?_
      refine a_aload_n (pc := 5) C dX1_hasPoint_5 0 rfl ?_
      refine a_getI (pc := 6) C dX1_hasPoint_6 fl_X1_32 hc0.1 rfl ?_
      refine a_icmp_ge (pc := 9) 16 C dX1_hasPoint_9 (by decide) hf (fun hf => ?_) (fun hf => ?_)
      · exact a_sub [] rfl (hk16 () hf)
      · refine a_iconst (pc := 12) (v := 1) C dX1_hasPoint_12 (by decide) ?_
        refine a_goto (pc := 13) 17 C dX1_hasPoint_13 (by decide) ?_
        exact a_zret (pc := 17) C dX1_hasPoint_17 (Or.inr rfl) (Option.some.inj hf) rfl
theorem dX1_hasLine_0 : decode cX1_hasLine 0 = .ok (.iload_n 1, 1) := by decide +kernel
theorem dX1_hasLine_1 : decode cX1_hasLine 1 = .ok (.ifCond .lt 15, 3) := by decide +kernel
theorem dX1_hasLine_4 : decode cX1_hasLine 4 = .ok (.iload_n 1, 1) := by decide +kernel
theorem dX1_hasLine_5 : decode cX1_hasLine 5 = .ok (.aload_n 0, 1) := by decide +kernel
theorem dX1_hasLine_6 : decode cX1_hasLine 6 = .ok (.getfield 35, 3) := by decide +kernel
theorem dX1_hasLine_9 : decode cX1_hasLine 9 = .ok (.if_icmp .ge 7, 3) := by decide +kernel
theorem dX1_hasLine_12 : decode cX1_hasLine 12 = .ok (.iconst 1, 1) := by decide +kernel
theorem dX1_hasLine_13 : decode cX1_hasLine 13 = .ok (.goto 4, 3) := by decide +kernel
theorem dX1_hasLine_16 : decode cX1_hasLine 16 = .ok (.iconst 0, 1) := by decide +kernel
theorem dX1_hasLine_17 : decode cX1_hasLine 17 = .ok (.ireturn, 1) := by decide +kernel
def f_X1_hasLine (N : Nat) (c0 : Nat) (x1 : Int32) (M : Mem) : Option (Int32) := jn (fun (a16 : Unit) => some (0 : Int32)) (fun (k16 : Unit → Option (Int32)) => if x1 < 0 then (k16 ()) else (if (M.1 c0 1) ≤ x1 then (k16 ()) else (some (1 : Int32))))
set_option maxRecDepth 100000 in
set_option maxHeartbeats 4000000 in
theorem c_X1_hasLine {l : Launch} {D : va_G} {ac : Nat → ClassId} {A : Nat → Prop} {ad : Nat → Nat} {rest : va_W} (N : Nat) (c0 : Nat) (x1 : Int32) (hc0 : NetAt tabX c0) (M : Mem) (r0 : Int32) (hf : f_X1_hasLine N c0 x1 M = some r0) : CtI l D ac A tabX ad rest yX1_hasLine cX1_hasLine 2 .boolean 1 [.ref (ad c0), .int x1] M r0 M := by
  refine ct_ofI (own := RX1) (by decide +kernel) rfl (Nat.le_of_ble_eq_true rfl) ?_
  intro p e s m args below meth c C
  unfold f_X1_hasLine at hf
  refine a_L (L' := [(0, .ref (ad c0)), (1, .int x1)]) rfl ?_
  refine a_iload_n (pc := 0) C dX1_hasLine_0 1 rfl ?_
  refine a_jn 16 (fun a16 : Unit => []) (fun a16 : Unit => []) (fun a16 : Unit => M) hf (fun a16 hf => ?_) (fun k16 hk16 hf => ?_)
  · refine a_iconst (pc := 16) (v := 0) C dX1_hasLine_16 (by decide) ?_
    exact a_zret (pc := 17) C dX1_hasLine_17 (Or.inl rfl) (Option.some.inj hf) rfl
  · refine a_if_lt (pc := 1) 16 C dX1_hasLine_1 (by decide) hf (fun hf => ?_) (fun hf => ?_)
    · exact a_sub [] rfl (hk16 () hf)
    · refine a_iload_n (pc := 4) C dX1_hasLine_4 1 rfl ?_
      refine a_aload_n (pc := 5) C dX1_hasLine_5 0 rfl ?_
      refine a_getI (pc := 6) C dX1_hasLine_6 fl_X1_35 hc0.1 rfl ?_
      refine a_icmp_ge (pc := 9) 16 C dX1_hasLine_9 (by decide) hf (fun hf => ?_) (fun hf => ?_)
      · exact a_sub [] rfl (hk16 () hf)
      · refine a_iconst (pc := 12) (v := 1) C dX1_hasLine_12 (by decide) ?_
        refine a_goto (pc := 13) 17 C dX1_hasLine_13 (by decide) ?_
        exact a_zret (pc := 17) C dX1_hasLine_17 (Or.inr rfl) (Option.some.inj hf) rfl
theorem dX1_areLines_0 : decode cX1_areLines 0 = .ok (.iload_n 1, 1) := by decide +kernel
theorem dX1_areLines_1 : decode cX1_areLines 1 = .ok (.iconst 1, 1) := by decide +kernel
theorem dX1_areLines_2 : decode cX1_areLines 2 = .ok (.aload_n 0, 1) := by decide +kernel
theorem dX1_areLines_3 : decode cX1_areLines 3 = .ok (.getfield 35, 3) := by decide +kernel
theorem dX1_areLines_6 : decode cX1_areLines 6 = .ok (.ishl, 1) := by decide +kernel
theorem dX1_areLines_7 : decode cX1_areLines 7 = .ok (.iconst 1, 1) := by decide +kernel
theorem dX1_areLines_8 : decode cX1_areLines 8 = .ok (.isub, 1) := by decide +kernel
theorem dX1_areLines_9 : decode cX1_areLines 9 = .ok (.iconst (-1), 1) := by decide +kernel
theorem dX1_areLines_10 : decode cX1_areLines 10 = .ok (.ixor, 1) := by decide +kernel
theorem dX1_areLines_11 : decode cX1_areLines 11 = .ok (.iand, 1) := by decide +kernel
theorem dX1_areLines_12 : decode cX1_areLines 12 = .ok (.ifCond .ne 7, 3) := by decide +kernel
theorem dX1_areLines_15 : decode cX1_areLines 15 = .ok (.iconst 1, 1) := by decide +kernel
theorem dX1_areLines_16 : decode cX1_areLines 16 = .ok (.goto 4, 3) := by decide +kernel
theorem dX1_areLines_19 : decode cX1_areLines 19 = .ok (.iconst 0, 1) := by decide +kernel
theorem dX1_areLines_20 : decode cX1_areLines 20 = .ok (.ireturn, 1) := by decide +kernel
def f_X1_areLines (N : Nat) (c0 : Nat) (x1 : Int32) (M : Mem) : Option (Int32) := if (x1 &&& ((((1 : Int32) <<< ((M.1 c0 1) &&& 31)) - (1 : Int32)) ^^^ (-1 : Int32))) = 0 then (some (1 : Int32)) else (some (0 : Int32))
set_option maxRecDepth 100000 in
set_option maxHeartbeats 4000000 in
theorem c_X1_areLines {l : Launch} {D : va_G} {ac : Nat → ClassId} {A : Nat → Prop} {ad : Nat → Nat} {rest : va_W} (N : Nat) (c0 : Nat) (x1 : Int32) (hc0 : NetAt tabX c0) (M : Mem) (r0 : Int32) (hf : f_X1_areLines N c0 x1 M = some r0) : CtI l D ac A tabX ad rest yX1_areLines cX1_areLines 2 .boolean 1 [.ref (ad c0), .int x1] M r0 M := by
  refine ct_ofI (own := RX1) (by decide +kernel) rfl (Nat.le_of_ble_eq_true rfl) ?_
  intro p e s m args below meth c C
  unfold f_X1_areLines at hf
  refine a_L (L' := [(0, .ref (ad c0)), (1, .int x1)]) rfl ?_
  refine a_iload_n (pc := 0) C dX1_areLines_0 1 rfl ?_
  refine a_iconst (pc := 1) (v := 1) C dX1_areLines_1 (by decide) ?_
  refine a_aload_n (pc := 2) C dX1_areLines_2 0 rfl ?_
  refine a_getI (pc := 3) C dX1_areLines_3 fl_X1_35 hc0.1 rfl ?_
  refine a_ishl (pc := 6) C dX1_areLines_6 ?_
  refine a_iconst (pc := 7) (v := 1) C dX1_areLines_7 (by decide) ?_
  refine a_isub (pc := 8) C dX1_areLines_8 ?_
  refine a_iconst (pc := 9) (v := (-1)) C dX1_areLines_9 (by decide) ?_
  refine a_ixor (pc := 10) C dX1_areLines_10 ?_
  refine a_iand (pc := 11) C dX1_areLines_11 ?_
  refine a_if_ne (pc := 12) 19 C dX1_areLines_12 (by decide) hf (fun hf => ?_) (fun hf => ?_)
  · refine a_iconst (pc := 19) (v := 0) C dX1_areLines_19 (by decide) ?_
    exact a_zret (pc := 20) C dX1_areLines_20 (Or.inl rfl) (Option.some.inj hf) rfl
  · refine a_iconst (pc := 15) (v := 1) C dX1_areLines_15 (by decide) ?_
    refine a_goto (pc := 16) 20 C dX1_areLines_16 (by decide) ?_
    exact a_zret (pc := 20) C dX1_areLines_20 (Or.inr rfl) (Option.some.inj hf) rfl
theorem dX1_pointsOf_0 : decode cX1_pointsOf 0 = .ok (.iconst 0, 1) := by decide +kernel
theorem dX1_pointsOf_1 : decode cX1_pointsOf 1 = .ok (.istore_n 2, 1) := by decide +kernel
theorem dX1_pointsOf_2 : decode cX1_pointsOf 2 = .ok (.iconst 0, 1) := by decide +kernel
theorem dX1_pointsOf_3 : decode cX1_pointsOf 3 = .ok (.istore_n 3, 1) := by decide +kernel
theorem dX1_pointsOf_4 : decode cX1_pointsOf 4 = .ok (.iload_n 3, 1) := by decide +kernel
theorem dX1_pointsOf_5 : decode cX1_pointsOf 5 = .ok (.aload_n 0, 1) := by decide +kernel
theorem dX1_pointsOf_6 : decode cX1_pointsOf 6 = .ok (.getfield 35, 3) := by decide +kernel
theorem dX1_pointsOf_9 : decode cX1_pointsOf 9 = .ok (.if_icmp .ge 38, 3) := by decide +kernel
theorem dX1_pointsOf_12 : decode cX1_pointsOf 12 = .ok (.iload_n 1, 1) := by decide +kernel
theorem dX1_pointsOf_13 : decode cX1_pointsOf 13 = .ok (.iload_n 3, 1) := by decide +kernel
theorem dX1_pointsOf_14 : decode cX1_pointsOf 14 = .ok (.ishr, 1) := by decide +kernel
theorem dX1_pointsOf_15 : decode cX1_pointsOf 15 = .ok (.iconst 1, 1) := by decide +kernel
theorem dX1_pointsOf_16 : decode cX1_pointsOf 16 = .ok (.iand, 1) := by decide +kernel
theorem dX1_pointsOf_17 : decode cX1_pointsOf 17 = .ok (.iconst 1, 1) := by decide +kernel
theorem dX1_pointsOf_18 : decode cX1_pointsOf 18 = .ok (.if_icmp .ne 23, 3) := by decide +kernel
theorem dX1_pointsOf_21 : decode cX1_pointsOf 21 = .ok (.iload_n 2, 1) := by decide +kernel
theorem dX1_pointsOf_22 : decode cX1_pointsOf 22 = .ok (.iconst 1, 1) := by decide +kernel
theorem dX1_pointsOf_23 : decode cX1_pointsOf 23 = .ok (.aload_n 0, 1) := by decide +kernel
theorem dX1_pointsOf_24 : decode cX1_pointsOf 24 = .ok (.getfield 22, 3) := by decide +kernel
theorem dX1_pointsOf_27 : decode cX1_pointsOf 27 = .ok (.iload_n 3, 1) := by decide +kernel
theorem dX1_pointsOf_28 : decode cX1_pointsOf 28 = .ok (.iaload, 1) := by decide +kernel
theorem dX1_pointsOf_29 : decode cX1_pointsOf 29 = .ok (.ishl, 1) := by decide +kernel
theorem dX1_pointsOf_30 : decode cX1_pointsOf 30 = .ok (.iconst 1, 1) := by decide +kernel
theorem dX1_pointsOf_31 : decode cX1_pointsOf 31 = .ok (.aload_n 0, 1) := by decide +kernel
theorem dX1_pointsOf_32 : decode cX1_pointsOf 32 = .ok (.getfield 25, 3) := by decide +kernel
theorem dX1_pointsOf_35 : decode cX1_pointsOf 35 = .ok (.iload_n 3, 1) := by decide +kernel
theorem dX1_pointsOf_36 : decode cX1_pointsOf 36 = .ok (.iaload, 1) := by decide +kernel
theorem dX1_pointsOf_37 : decode cX1_pointsOf 37 = .ok (.ishl, 1) := by decide +kernel
theorem dX1_pointsOf_38 : decode cX1_pointsOf 38 = .ok (.ior, 1) := by decide +kernel
theorem dX1_pointsOf_39 : decode cX1_pointsOf 39 = .ok (.ior, 1) := by decide +kernel
theorem dX1_pointsOf_40 : decode cX1_pointsOf 40 = .ok (.istore_n 2, 1) := by decide +kernel
theorem dX1_pointsOf_41 : decode cX1_pointsOf 41 = .ok (.iinc 3 1, 3) := by decide +kernel
theorem dX1_pointsOf_44 : decode cX1_pointsOf 44 = .ok (.goto (-40), 3) := by decide +kernel
theorem dX1_pointsOf_47 : decode cX1_pointsOf 47 = .ok (.iload_n 2, 1) := by decide +kernel
theorem dX1_pointsOf_48 : decode cX1_pointsOf 48 = .ok (.ireturn, 1) := by decide +kernel
def f_X1_pointsOf (N : Nat) (c0 : Nat) (x1 : Int32) (M : Mem) : Option (Int32) := lp (fun (k4 : (Int32 × Int32) → Option (Int32)) (a4 : Int32 × Int32) => if (M.1 c0 1) ≤ a4.2 then (some a4.1) else (jn (fun (a41 : Int32) => nm (a4.2 + (1 : Int32)) (fun v1 => k4 (a41, v1))) (fun (k41 : Int32 → Option (Int32)) => if ((x1 >>> (a4.2 &&& 31)) &&& (1 : Int32)) = (1 : Int32) then (ck (inb a4.2 10) (ck (inb a4.2 10) (nm (a4.1 ||| (((1 : Int32) <<< ((M.1 (c0 + 3) a4.2.toNatClampNeg) &&& 31)) ||| ((1 : Int32) <<< ((M.1 (c0 + 4) a4.2.toNatClampNeg) &&& 31)))) (fun v2 => k41 v2)))) else (k41 a4.1)))) N ((0 : Int32), (0 : Int32))
set_option maxRecDepth 100000 in
set_option maxHeartbeats 4000000 in
theorem c_X1_pointsOf {l : Launch} {D : va_G} {ac : Nat → ClassId} {A : Nat → Prop} {ad : Nat → Nat} {rest : va_W} (N : Nat) (c0 : Nat) (x1 : Int32) (hc0 : NetAt tabX c0) (M : Mem) (r0 : Int32) (hf : f_X1_pointsOf N c0 x1 M = some r0) : CtI l D ac A tabX ad rest yX1_pointsOf cX1_pointsOf 4 .int 1 [.ref (ad c0), .int x1] M r0 M := by
  refine ct_ofI (own := RX1) (by decide +kernel) rfl (Nat.le_of_ble_eq_true rfl) ?_
  intro p e s m args below meth c C
  unfold f_X1_pointsOf at hf
  refine a_L (L' := [(0, .ref (ad c0)), (1, .int x1)]) rfl ?_
  refine a_iconst (pc := 0) (v := 0) C dX1_pointsOf_0 (by decide) ?_
  refine a_istore_n (pc := 1) [(2, .int (0 : Int32)), (0, .ref (ad c0)), (1, .int x1)] C dX1_pointsOf_1 (by decide) rfl ?_
  refine a_iconst (pc := 2) (v := 0) C dX1_pointsOf_2 (by decide) ?_
  refine a_istore_n (pc := 3) [(3, .int (0 : Int32)), (2, .int (0 : Int32)), (0, .ref (ad c0)), (1, .int x1)] C dX1_pointsOf_3 (by decide) rfl ?_
  refine a_sub [2, 3, 1, 0] rfl ?_
  refine a_lp 4 (fun a4 : Int32 × Int32 => [(0, .ref (ad c0)), (1, .int x1), (2, .int a4.1), (3, .int a4.2)]) (fun a4 : Int32 × Int32 => []) (fun a4 : Int32 × Int32 => M) (fun k4 a4 hk4 hf => ?_) N ((0 : Int32), (0 : Int32)) hf
  refine a_iload_n (pc := 4) C dX1_pointsOf_4 3 rfl ?_
  refine a_aload_n (pc := 5) C dX1_pointsOf_5 0 rfl ?_
  refine a_getI (pc := 6) C dX1_pointsOf_6 fl_X1_35 hc0.1 rfl ?_
  refine a_icmp_ge (pc := 9) 47 C dX1_pointsOf_9 (by decide) hf (fun hf => ?_) (fun hf => ?_)
  · refine a_iload_n (pc := 47) C dX1_pointsOf_47 2 rfl ?_
    exact a_iret (pc := 48) C dX1_pointsOf_48 (Option.some.inj hf) rfl
  · refine a_iload_n (pc := 12) C dX1_pointsOf_12 1 rfl ?_
    refine a_iload_n (pc := 13) C dX1_pointsOf_13 3 rfl ?_
    refine a_ishr (pc := 14) C dX1_pointsOf_14 ?_
    refine a_iconst (pc := 15) (v := 1) C dX1_pointsOf_15 (by decide) ?_
    refine a_iand (pc := 16) C dX1_pointsOf_16 ?_
    refine a_iconst (pc := 17) (v := 1) C dX1_pointsOf_17 (by decide) ?_
    refine a_jn 41 (fun a41 : Int32 => [(0, .ref (ad c0)), (1, .int x1), (2, .int a41), (3, .int a4.2)]) (fun a41 : Int32 => []) (fun a41 : Int32 => M) hf (fun a41 hf => ?_) (fun k41 hk41 hf => ?_)
    · refine a_iinc (pc := 41) (v := 1) (fun v1 => [(3, .int v1), (0, .ref (ad c0)), (1, .int x1), (2, .int a41)]) C dX1_pointsOf_41 3 rfl (by decide) (by decide) (fun _ => rfl) hf (fun v1 hf => ?_)
      refine a_goto (pc := 44) 4 C dX1_pointsOf_44 (by decide) ?_
      exact a_sub [1, 2, 3, 0] rfl (hk4 (a41, v1) hf)
    · refine a_icmp_ne (pc := 18) 41 C dX1_pointsOf_18 (by decide) hf (fun hf => ?_) (fun hf => ?_)
      · exact a_sub [0, 1, 2, 3] rfl (hk41 a4.1 hf)
      · refine a_iload_n (pc := 21) C dX1_pointsOf_21 2 rfl ?_
        refine a_iconst (pc := 22) (v := 1) C dX1_pointsOf_22 (by decide) ?_
        refine a_aload_n (pc := 23) C dX1_pointsOf_23 0 rfl ?_
        refine a_getR (pc := 24) C dX1_pointsOf_24 fl_X1_22 hc0.1 rfl ?_
        refine a_iload_n (pc := 27) C dX1_pointsOf_27 3 rfl ?_
        refine a_iald (pc := 28) C dX1_pointsOf_28 hc0.2.2.2.1 hf (fun hf => ?_)
        refine a_ishl (pc := 29) C dX1_pointsOf_29 ?_
        refine a_iconst (pc := 30) (v := 1) C dX1_pointsOf_30 (by decide) ?_
        refine a_aload_n (pc := 31) C dX1_pointsOf_31 0 rfl ?_
        refine a_getR (pc := 32) C dX1_pointsOf_32 fl_X1_25 hc0.1 rfl ?_
        refine a_iload_n (pc := 35) C dX1_pointsOf_35 3 rfl ?_
        refine a_iald (pc := 36) C dX1_pointsOf_36 hc0.2.2.2.2.1 hf (fun hf => ?_)
        refine a_ishl (pc := 37) C dX1_pointsOf_37 ?_
        refine a_ior (pc := 38) C dX1_pointsOf_38 ?_
        refine a_ior (pc := 39) C dX1_pointsOf_39 ?_
        refine a_nmi hf (fun v2 hf => ?_)
        refine a_istore_n (pc := 40) [(2, .int v2), (0, .ref (ad c0)), (1, .int x1), (3, .int a4.2)] C dX1_pointsOf_40 (by decide) rfl ?_
        exact a_sub [1, 2, 0, 3] rfl (hk41 v2 hf)
theorem dX1_addPoints_0 : decode cX1_addPoints 0 = .ok (.iconst 0, 1) := by decide +kernel
theorem dX1_addPoints_1 : decode cX1_addPoints 1 = .ok (.istore_n 2, 1) := by decide +kernel
theorem dX1_addPoints_2 : decode cX1_addPoints 2 = .ok (.iload_n 2, 1) := by decide +kernel
theorem dX1_addPoints_3 : decode cX1_addPoints 3 = .ok (.iload_n 1, 1) := by decide +kernel
theorem dX1_addPoints_4 : decode cX1_addPoints 4 = .ok (.if_icmp .ge 40, 3) := by decide +kernel
theorem dX1_addPoints_7 : decode cX1_addPoints 7 = .ok (.aload_n 0, 1) := by decide +kernel
theorem dX1_addPoints_8 : decode cX1_addPoints 8 = .ok (.getfield 32, 3) := by decide +kernel
theorem dX1_addPoints_11 : decode cX1_addPoints 11 = .ok (.bipush 6, 2) := by decide +kernel
theorem dX1_addPoints_13 : decode cX1_addPoints 13 = .ok (.if_icmp .ge 31, 3) := by decide +kernel
theorem dX1_addPoints_16 : decode cX1_addPoints 16 = .ok (.aload_n 0, 1) := by decide +kernel
theorem dX1_addPoints_17 : decode cX1_addPoints 17 = .ok (.getfield 28, 3) := by decide +kernel
theorem dX1_addPoints_20 : decode cX1_addPoints 20 = .ok (.aload_n 0, 1) := by decide +kernel
theorem dX1_addPoints_21 : decode cX1_addPoints 21 = .ok (.getfield 32, 3) := by decide +kernel
theorem dX1_addPoints_24 : decode cX1_addPoints 24 = .ok (.ldc2_w 51, 3) := by decide +kernel
theorem dX1_addPoints_27 : decode cX1_addPoints 27 = .ok (.lastore, 1) := by decide +kernel
theorem dX1_addPoints_28 : decode cX1_addPoints 28 = .ok (.aload_n 0, 1) := by decide +kernel
theorem dX1_addPoints_29 : decode cX1_addPoints 29 = .ok (.dup, 1) := by decide +kernel
theorem dX1_addPoints_30 : decode cX1_addPoints 30 = .ok (.getfield 32, 3) := by decide +kernel
theorem dX1_addPoints_33 : decode cX1_addPoints 33 = .ok (.iconst 1, 1) := by decide +kernel
theorem dX1_addPoints_34 : decode cX1_addPoints 34 = .ok (.iadd, 1) := by decide +kernel
theorem dX1_addPoints_35 : decode cX1_addPoints 35 = .ok (.putfield 32, 3) := by decide +kernel
theorem dX1_addPoints_38 : decode cX1_addPoints 38 = .ok (.iinc 2 1, 3) := by decide +kernel
theorem dX1_addPoints_41 : decode cX1_addPoints 41 = .ok (.goto (-39), 3) := by decide +kernel
theorem dX1_addPoints_44 : decode cX1_addPoints 44 = .ok (.return_, 1) := by decide +kernel
def f_X1_addPoints (N : Nat) (c0 : Nat) (x1 : Int32) (M : Mem) : Option (Mem) := lp (fun (k2 : (Int32 × Mem) → Option (Mem)) (a2 : Int32 × Mem) => if x1 ≤ a2.1 then (some a2.2) else (if (6 : Int32) ≤ (a2.2.1 c0 0) then (some a2.2) else (ck (inb (a2.2.1 c0 0) 6) (nm (setJ a2.2 (c0 + 5) (a2.2.1 c0 0).toNatClampNeg (1099511627775 : Int64)) (fun M1 => nm (setI M1 c0 0 ((M1.1 c0 0) + (1 : Int32))) (fun M2 => nm (a2.1 + (1 : Int32)) (fun v3 => k2 (v3, M2)))))))) N ((0 : Int32), M)
set_option maxRecDepth 100000 in
set_option maxHeartbeats 4000000 in
theorem c_X1_addPoints {l : Launch} {D : va_G} {ac : Nat → ClassId} {A : Nat → Prop} {ad : Nat → Nat} {rest : va_W} (N : Nat) (c0 : Nat) (x1 : Int32) (hc0 : NetAt tabX c0) (M : Mem)  (M0 : Mem) (hf : f_X1_addPoints N c0 x1 M = some M0) : CtV l D ac A tabX ad rest yX1_addPoints cX1_addPoints 3  1 [.ref (ad c0), .int x1] M  M0 := by
  refine ct_ofV (own := RX1) (by decide +kernel) rfl (Nat.le_of_ble_eq_true rfl) ?_
  intro p e s m args below meth c C
  unfold f_X1_addPoints at hf
  refine a_L (L' := [(0, .ref (ad c0)), (1, .int x1)]) rfl ?_
  refine a_iconst (pc := 0) (v := 0) C dX1_addPoints_0 (by decide) ?_
  refine a_istore_n (pc := 1) [(2, .int (0 : Int32)), (0, .ref (ad c0)), (1, .int x1)] C dX1_addPoints_1 (by decide) rfl ?_
  refine a_sub [1, 2, 0] rfl ?_
  refine a_lp 2 (fun a2 : Int32 × Mem => [(0, .ref (ad c0)), (1, .int x1), (2, .int a2.1)]) (fun a2 : Int32 × Mem => []) (fun a2 : Int32 × Mem => a2.2) (fun k2 a2 hk2 hf => ?_) N ((0 : Int32), M) hf
  refine a_iload_n (pc := 2) C dX1_addPoints_2 2 rfl ?_
  refine a_iload_n (pc := 3) C dX1_addPoints_3 1 rfl ?_
  refine a_icmp_ge (pc := 4) 44 C dX1_addPoints_4 (by decide) hf (fun hf => ?_) (fun hf => ?_)
  · exact a_vret (pc := 44) C dX1_addPoints_44 (Option.some.inj hf)
  · refine a_aload_n (pc := 7) C dX1_addPoints_7 0 rfl ?_
    refine a_getI (pc := 8) C dX1_addPoints_8 fl_X1_32 hc0.1 rfl ?_
    refine a_bipush (pc := 11) (v := 6) C dX1_addPoints_11 (by decide) ?_
    refine a_icmp_ge (pc := 13) 44 C dX1_addPoints_13 (by decide) hf (fun hf => ?_) (fun hf => ?_)
    · exact a_vret (pc := 44) C dX1_addPoints_44 (Option.some.inj hf)
    · refine a_aload_n (pc := 16) C dX1_addPoints_16 0 rfl ?_
      refine a_getR (pc := 17) C dX1_addPoints_17 fl_X1_28 hc0.1 rfl ?_
      refine a_aload_n (pc := 20) C dX1_addPoints_20 0 rfl ?_
      refine a_getI (pc := 21) C dX1_addPoints_21 fl_X1_32 hc0.1 rfl ?_
      refine a_ldc2 (pc := 24) C dX1_addPoints_24 cj_X1_51 ?_
      refine a_last (pc := 27) C dX1_addPoints_27 hc0.2.2.2.2.2 hf (fun M1 hf => ?_)
      refine a_aload_n (pc := 28) C dX1_addPoints_28 0 rfl ?_
      refine a_dup (pc := 29) C dX1_addPoints_29 rfl ?_
      refine a_getI (pc := 30) C dX1_addPoints_30 fl_X1_32 hc0.1 rfl ?_
      refine a_iconst (pc := 33) (v := 1) C dX1_addPoints_33 (by decide) ?_
      refine a_iadd (pc := 34) C dX1_addPoints_34 ?_
      refine a_putI (pc := 35) C dX1_addPoints_35 fl_X1_32 hc0.1 rfl hf (fun M2 hf => ?_)
      refine a_iinc (pc := 38) (v := 1) (fun v3 => [(2, .int v3), (0, .ref (ad c0)), (1, .int x1)]) C dX1_addPoints_38 2 rfl (by decide) (by decide) (fun _ => rfl) hf (fun v3 hf => ?_)
      refine a_goto (pc := 41) 2 C dX1_addPoints_41 (by decide) ?_
      exact a_sub [1, 2, 0] rfl (hk2 (v3, M2) hf)
theorem dX1_removeLine_0 : decode cX1_removeLine 0 = .ok (.aload_n 0, 1) := by decide +kernel
theorem dX1_removeLine_1 : decode cX1_removeLine 1 = .ok (.dup, 1) := by decide +kernel
theorem dX1_removeLine_2 : decode cX1_removeLine 2 = .ok (.getfield 35, 3) := by decide +kernel
theorem dX1_removeLine_5 : decode cX1_removeLine 5 = .ok (.iconst 1, 1) := by decide +kernel
theorem dX1_removeLine_6 : decode cX1_removeLine 6 = .ok (.isub, 1) := by decide +kernel
theorem dX1_removeLine_7 : decode cX1_removeLine 7 = .ok (.putfield 35, 3) := by decide +kernel
theorem dX1_removeLine_10 : decode cX1_removeLine 10 = .ok (.iload_n 1, 1) := by decide +kernel
theorem dX1_removeLine_11 : decode cX1_removeLine 11 = .ok (.istore_n 2, 1) := by decide +kernel
theorem dX1_removeLine_12 : decode cX1_removeLine 12 = .ok (.iload_n 2, 1) := by decide +kernel
theorem dX1_removeLine_13 : decode cX1_removeLine 13 = .ok (.aload_n 0, 1) := by decide +kernel
theorem dX1_removeLine_14 : decode cX1_removeLine 14 = .ok (.getfield 35, 3) := by decide +kernel
theorem dX1_removeLine_17 : decode cX1_removeLine 17 = .ok (.if_icmp .ge 65, 3) := by decide +kernel
theorem dX1_removeLine_20 : decode cX1_removeLine 20 = .ok (.aload_n 0, 1) := by decide +kernel
theorem dX1_removeLine_21 : decode cX1_removeLine 21 = .ok (.getfield 15, 3) := by decide +kernel
theorem dX1_removeLine_24 : decode cX1_removeLine 24 = .ok (.iload_n 2, 1) := by decide +kernel
theorem dX1_removeLine_25 : decode cX1_removeLine 25 = .ok (.aload_n 0, 1) := by decide +kernel
theorem dX1_removeLine_26 : decode cX1_removeLine 26 = .ok (.getfield 15, 3) := by decide +kernel
theorem dX1_removeLine_29 : decode cX1_removeLine 29 = .ok (.iload_n 2, 1) := by decide +kernel
theorem dX1_removeLine_30 : decode cX1_removeLine 30 = .ok (.iconst 1, 1) := by decide +kernel
theorem dX1_removeLine_31 : decode cX1_removeLine 31 = .ok (.iadd, 1) := by decide +kernel
theorem dX1_removeLine_32 : decode cX1_removeLine 32 = .ok (.iaload, 1) := by decide +kernel
theorem dX1_removeLine_33 : decode cX1_removeLine 33 = .ok (.iastore, 1) := by decide +kernel
theorem dX1_removeLine_34 : decode cX1_removeLine 34 = .ok (.aload_n 0, 1) := by decide +kernel
theorem dX1_removeLine_35 : decode cX1_removeLine 35 = .ok (.getfield 19, 3) := by decide +kernel
theorem dX1_removeLine_38 : decode cX1_removeLine 38 = .ok (.iload_n 2, 1) := by decide +kernel
theorem dX1_removeLine_39 : decode cX1_removeLine 39 = .ok (.aload_n 0, 1) := by decide +kernel
theorem dX1_removeLine_40 : decode cX1_removeLine 40 = .ok (.getfield 19, 3) := by decide +kernel
theorem dX1_removeLine_43 : decode cX1_removeLine 43 = .ok (.iload_n 2, 1) := by decide +kernel
theorem dX1_removeLine_44 : decode cX1_removeLine 44 = .ok (.iconst 1, 1) := by decide +kernel
theorem dX1_removeLine_45 : decode cX1_removeLine 45 = .ok (.iadd, 1) := by decide +kernel
theorem dX1_removeLine_46 : decode cX1_removeLine 46 = .ok (.iaload, 1) := by decide +kernel
theorem dX1_removeLine_47 : decode cX1_removeLine 47 = .ok (.iastore, 1) := by decide +kernel
theorem dX1_removeLine_48 : decode cX1_removeLine 48 = .ok (.aload_n 0, 1) := by decide +kernel
theorem dX1_removeLine_49 : decode cX1_removeLine 49 = .ok (.getfield 22, 3) := by decide +kernel
theorem dX1_removeLine_52 : decode cX1_removeLine 52 = .ok (.iload_n 2, 1) := by decide +kernel
theorem dX1_removeLine_53 : decode cX1_removeLine 53 = .ok (.aload_n 0, 1) := by decide +kernel
theorem dX1_removeLine_54 : decode cX1_removeLine 54 = .ok (.getfield 22, 3) := by decide +kernel
theorem dX1_removeLine_57 : decode cX1_removeLine 57 = .ok (.iload_n 2, 1) := by decide +kernel
theorem dX1_removeLine_58 : decode cX1_removeLine 58 = .ok (.iconst 1, 1) := by decide +kernel
theorem dX1_removeLine_59 : decode cX1_removeLine 59 = .ok (.iadd, 1) := by decide +kernel
theorem dX1_removeLine_60 : decode cX1_removeLine 60 = .ok (.iaload, 1) := by decide +kernel
theorem dX1_removeLine_61 : decode cX1_removeLine 61 = .ok (.iastore, 1) := by decide +kernel
theorem dX1_removeLine_62 : decode cX1_removeLine 62 = .ok (.aload_n 0, 1) := by decide +kernel
theorem dX1_removeLine_63 : decode cX1_removeLine 63 = .ok (.getfield 25, 3) := by decide +kernel
theorem dX1_removeLine_66 : decode cX1_removeLine 66 = .ok (.iload_n 2, 1) := by decide +kernel
theorem dX1_removeLine_67 : decode cX1_removeLine 67 = .ok (.aload_n 0, 1) := by decide +kernel
theorem dX1_removeLine_68 : decode cX1_removeLine 68 = .ok (.getfield 25, 3) := by decide +kernel
theorem dX1_removeLine_71 : decode cX1_removeLine 71 = .ok (.iload_n 2, 1) := by decide +kernel
theorem dX1_removeLine_72 : decode cX1_removeLine 72 = .ok (.iconst 1, 1) := by decide +kernel
theorem dX1_removeLine_73 : decode cX1_removeLine 73 = .ok (.iadd, 1) := by decide +kernel
theorem dX1_removeLine_74 : decode cX1_removeLine 74 = .ok (.iaload, 1) := by decide +kernel
theorem dX1_removeLine_75 : decode cX1_removeLine 75 = .ok (.iastore, 1) := by decide +kernel
theorem dX1_removeLine_76 : decode cX1_removeLine 76 = .ok (.iinc 2 1, 3) := by decide +kernel
theorem dX1_removeLine_79 : decode cX1_removeLine 79 = .ok (.goto (-67), 3) := by decide +kernel
theorem dX1_removeLine_82 : decode cX1_removeLine 82 = .ok (.return_, 1) := by decide +kernel
def f_X1_removeLine (N : Nat) (c0 : Nat) (x1 : Int32) (M : Mem) : Option (Mem) := nm (setI M c0 1 ((M.1 c0 1) - (1 : Int32))) (fun M1 => lp (fun (k12 : (Int32 × Mem) → Option (Mem)) (a12 : Int32 × Mem) => if (a12.2.1 c0 1) ≤ a12.1 then (some a12.2) else (ck (inb (a12.1 + (1 : Int32)) 10) (ck (inb a12.1 10) (nm (setI a12.2 (c0 + 1) a12.1.toNatClampNeg (a12.2.1 (c0 + 1) (a12.1 + (1 : Int32)).toNatClampNeg)) (fun M2 => ck (inb (a12.1 + (1 : Int32)) 10) (ck (inb a12.1 10) (nm (setI M2 (c0 + 2) a12.1.toNatClampNeg (M2.1 (c0 + 2) (a12.1 + (1 : Int32)).toNatClampNeg)) (fun M3 => ck (inb (a12.1 + (1 : Int32)) 10) (ck (inb a12.1 10) (nm (setI M3 (c0 + 3) a12.1.toNatClampNeg (M3.1 (c0 + 3) (a12.1 + (1 : Int32)).toNatClampNeg)) (fun M4 => ck (inb (a12.1 + (1 : Int32)) 10) (ck (inb a12.1 10) (nm (setI M4 (c0 + 4) a12.1.toNatClampNeg (M4.1 (c0 + 4) (a12.1 + (1 : Int32)).toNatClampNeg)) (fun M5 => nm (a12.1 + (1 : Int32)) (fun v6 => k12 (v6, M5)))))))))))))))) N (x1, M1))
set_option maxRecDepth 100000 in
set_option maxHeartbeats 4000000 in
theorem c_X1_removeLine {l : Launch} {D : va_G} {ac : Nat → ClassId} {A : Nat → Prop} {ad : Nat → Nat} {rest : va_W} (N : Nat) (c0 : Nat) (x1 : Int32) (hc0 : NetAt tabX c0) (M : Mem)  (M0 : Mem) (hf : f_X1_removeLine N c0 x1 M = some M0) : CtV l D ac A tabX ad rest yX1_removeLine cX1_removeLine 3  1 [.ref (ad c0), .int x1] M  M0 := by
  refine ct_ofV (own := RX1) (by decide +kernel) rfl (Nat.le_of_ble_eq_true rfl) ?_
  intro p e s m args below meth c C
  unfold f_X1_removeLine at hf
  refine a_L (L' := [(0, .ref (ad c0)), (1, .int x1)]) rfl ?_
  refine a_aload_n (pc := 0) C dX1_removeLine_0 0 rfl ?_
  refine a_dup (pc := 1) C dX1_removeLine_1 rfl ?_
  refine a_getI (pc := 2) C dX1_removeLine_2 fl_X1_35 hc0.1 rfl ?_
  refine a_iconst (pc := 5) (v := 1) C dX1_removeLine_5 (by decide) ?_
  refine a_isub (pc := 6) C dX1_removeLine_6 ?_
  refine a_putI (pc := 7) C dX1_removeLine_7 fl_X1_35 hc0.1 rfl hf (fun M1 hf => ?_)
  refine a_iload_n (pc := 10) C dX1_removeLine_10 1 rfl ?_
  refine a_istore_n (pc := 11) [(2, .int x1), (0, .ref (ad c0)), (1, .int x1)] C dX1_removeLine_11 (by decide) rfl ?_
  refine a_sub [1, 0] rfl ?_
  refine a_lp 12 (fun a12 : Int32 × Mem => [(0, .ref (ad c0)), (2, .int a12.1)]) (fun a12 : Int32 × Mem => []) (fun a12 : Int32 × Mem => a12.2) (fun k12 a12 hk12 hf => ?_) N (x1, M1) hf
  refine a_iload_n (pc := 12) C dX1_removeLine_12 1 rfl ?_
  refine a_aload_n (pc := 13) C dX1_removeLine_13 0 rfl ?_
  refine a_getI (pc := 14) C dX1_removeLine_14 fl_X1_35 hc0.1 rfl ?_
  refine a_icmp_ge (pc := 17) 82 C dX1_removeLine_17 (by decide) hf (fun hf => ?_) (fun hf => ?_)
  · exact a_vret (pc := 82) C dX1_removeLine_82 (Option.some.inj hf)
  · refine a_aload_n (pc := 20) C dX1_removeLine_20 0 rfl ?_
    refine a_getR (pc := 21) C dX1_removeLine_21 fl_X1_15 hc0.1 rfl ?_
    refine a_iload_n (pc := 24) C dX1_removeLine_24 1 rfl ?_
    refine a_aload_n (pc := 25) C dX1_removeLine_25 0 rfl ?_
    refine a_getR (pc := 26) C dX1_removeLine_26 fl_X1_15 hc0.1 rfl ?_
    refine a_iload_n (pc := 29) C dX1_removeLine_29 1 rfl ?_
    refine a_iconst (pc := 30) (v := 1) C dX1_removeLine_30 (by decide) ?_
    refine a_iadd (pc := 31) C dX1_removeLine_31 ?_
    refine a_iald (pc := 32) C dX1_removeLine_32 hc0.2.1 hf (fun hf => ?_)
    refine a_iast (pc := 33) C dX1_removeLine_33 hc0.2.1 hf (fun M2 hf => ?_)
    refine a_aload_n (pc := 34) C dX1_removeLine_34 0 rfl ?_
    refine a_getR (pc := 35) C dX1_removeLine_35 fl_X1_19 hc0.1 rfl ?_
    refine a_iload_n (pc := 38) C dX1_removeLine_38 1 rfl ?_
    refine a_aload_n (pc := 39) C dX1_removeLine_39 0 rfl ?_
    refine a_getR (pc := 40) C dX1_removeLine_40 fl_X1_19 hc0.1 rfl ?_
    refine a_iload_n (pc := 43) C dX1_removeLine_43 1 rfl ?_
    refine a_iconst (pc := 44) (v := 1) C dX1_removeLine_44 (by decide) ?_
    refine a_iadd (pc := 45) C dX1_removeLine_45 ?_
    refine a_iald (pc := 46) C dX1_removeLine_46 hc0.2.2.1 hf (fun hf => ?_)
    refine a_iast (pc := 47) C dX1_removeLine_47 hc0.2.2.1 hf (fun M3 hf => ?_)
    refine a_aload_n (pc := 48) C dX1_removeLine_48 0 rfl ?_
    refine a_getR (pc := 49) C dX1_removeLine_49 fl_X1_22 hc0.1 rfl ?_
    refine a_iload_n (pc := 52) C dX1_removeLine_52 1 rfl ?_
    refine a_aload_n (pc := 53) C dX1_removeLine_53 0 rfl ?_
    refine a_getR (pc := 54) C dX1_removeLine_54 fl_X1_22 hc0.1 rfl ?_
    refine a_iload_n (pc := 57) C dX1_removeLine_57 1 rfl ?_
    refine a_iconst (pc := 58) (v := 1) C dX1_removeLine_58 (by decide) ?_
    refine a_iadd (pc := 59) C dX1_removeLine_59 ?_
    refine a_iald (pc := 60) C dX1_removeLine_60 hc0.2.2.2.1 hf (fun hf => ?_)
    refine a_iast (pc := 61) C dX1_removeLine_61 hc0.2.2.2.1 hf (fun M4 hf => ?_)
    refine a_aload_n (pc := 62) C dX1_removeLine_62 0 rfl ?_
    refine a_getR (pc := 63) C dX1_removeLine_63 fl_X1_25 hc0.1 rfl ?_
    refine a_iload_n (pc := 66) C dX1_removeLine_66 1 rfl ?_
    refine a_aload_n (pc := 67) C dX1_removeLine_67 0 rfl ?_
    refine a_getR (pc := 68) C dX1_removeLine_68 fl_X1_25 hc0.1 rfl ?_
    refine a_iload_n (pc := 71) C dX1_removeLine_71 1 rfl ?_
    refine a_iconst (pc := 72) (v := 1) C dX1_removeLine_72 (by decide) ?_
    refine a_iadd (pc := 73) C dX1_removeLine_73 ?_
    refine a_iald (pc := 74) C dX1_removeLine_74 hc0.2.2.2.2.1 hf (fun hf => ?_)
    refine a_iast (pc := 75) C dX1_removeLine_75 hc0.2.2.2.2.1 hf (fun M5 hf => ?_)
    refine a_iinc (pc := 76) (v := 1) (fun v6 => [(2, .int v6), (0, .ref (ad c0))]) C dX1_removeLine_76 1 rfl (by decide) (by decide) (fun _ => rfl) hf (fun v6 hf => ?_)
    refine a_goto (pc := 79) 12 C dX1_removeLine_79 (by decide) ?_
    exact a_sub [1, 0] rfl (hk12 (v6, M5) hf)
theorem dX1_become_0 : decode cX1_become 0 = .ok (.aload_n 0, 1) := by decide +kernel
theorem dX1_become_1 : decode cX1_become 1 = .ok (.aload_n 1, 1) := by decide +kernel
theorem dX1_become_2 : decode cX1_become 2 = .ok (.getfield 32, 3) := by decide +kernel
theorem dX1_become_5 : decode cX1_become 5 = .ok (.putfield 32, 3) := by decide +kernel
theorem dX1_become_8 : decode cX1_become 8 = .ok (.aload_n 0, 1) := by decide +kernel
theorem dX1_become_9 : decode cX1_become 9 = .ok (.aload_n 1, 1) := by decide +kernel
theorem dX1_become_10 : decode cX1_become 10 = .ok (.getfield 35, 3) := by decide +kernel
theorem dX1_become_13 : decode cX1_become 13 = .ok (.putfield 35, 3) := by decide +kernel
theorem dX1_become_16 : decode cX1_become 16 = .ok (.aload_n 0, 1) := by decide +kernel
theorem dX1_become_17 : decode cX1_become 17 = .ok (.aload_n 1, 1) := by decide +kernel
theorem dX1_become_18 : decode cX1_become 18 = .ok (.getfield 9, 3) := by decide +kernel
theorem dX1_become_21 : decode cX1_become 21 = .ok (.putfield 9, 3) := by decide +kernel
theorem dX1_become_24 : decode cX1_become 24 = .ok (.aload_n 1, 1) := by decide +kernel
theorem dX1_become_25 : decode cX1_become 25 = .ok (.getfield 15, 3) := by decide +kernel
theorem dX1_become_28 : decode cX1_become 28 = .ok (.iconst 0, 1) := by decide +kernel
theorem dX1_become_29 : decode cX1_become 29 = .ok (.aload_n 0, 1) := by decide +kernel
theorem dX1_become_30 : decode cX1_become 30 = .ok (.getfield 15, 3) := by decide +kernel
theorem dX1_become_33 : decode cX1_become 33 = .ok (.iconst 0, 1) := by decide +kernel
theorem dX1_become_34 : decode cX1_become 34 = .ok (.bipush 10, 2) := by decide +kernel
theorem dX1_become_36 : decode cX1_become 36 = .ok (.invokestatic 53, 3) := by decide +kernel
theorem dX1_become_39 : decode cX1_become 39 = .ok (.aload_n 1, 1) := by decide +kernel
theorem dX1_become_40 : decode cX1_become 40 = .ok (.getfield 19, 3) := by decide +kernel
theorem dX1_become_43 : decode cX1_become 43 = .ok (.iconst 0, 1) := by decide +kernel
theorem dX1_become_44 : decode cX1_become 44 = .ok (.aload_n 0, 1) := by decide +kernel
theorem dX1_become_45 : decode cX1_become 45 = .ok (.getfield 19, 3) := by decide +kernel
theorem dX1_become_48 : decode cX1_become 48 = .ok (.iconst 0, 1) := by decide +kernel
theorem dX1_become_49 : decode cX1_become 49 = .ok (.bipush 10, 2) := by decide +kernel
theorem dX1_become_51 : decode cX1_become 51 = .ok (.invokestatic 53, 3) := by decide +kernel
theorem dX1_become_54 : decode cX1_become 54 = .ok (.aload_n 1, 1) := by decide +kernel
theorem dX1_become_55 : decode cX1_become 55 = .ok (.getfield 22, 3) := by decide +kernel
theorem dX1_become_58 : decode cX1_become 58 = .ok (.iconst 0, 1) := by decide +kernel
theorem dX1_become_59 : decode cX1_become 59 = .ok (.aload_n 0, 1) := by decide +kernel
theorem dX1_become_60 : decode cX1_become 60 = .ok (.getfield 22, 3) := by decide +kernel
theorem dX1_become_63 : decode cX1_become 63 = .ok (.iconst 0, 1) := by decide +kernel
theorem dX1_become_64 : decode cX1_become 64 = .ok (.bipush 10, 2) := by decide +kernel
theorem dX1_become_66 : decode cX1_become 66 = .ok (.invokestatic 53, 3) := by decide +kernel
theorem dX1_become_69 : decode cX1_become 69 = .ok (.aload_n 1, 1) := by decide +kernel
theorem dX1_become_70 : decode cX1_become 70 = .ok (.getfield 25, 3) := by decide +kernel
theorem dX1_become_73 : decode cX1_become 73 = .ok (.iconst 0, 1) := by decide +kernel
theorem dX1_become_74 : decode cX1_become 74 = .ok (.aload_n 0, 1) := by decide +kernel
theorem dX1_become_75 : decode cX1_become 75 = .ok (.getfield 25, 3) := by decide +kernel
theorem dX1_become_78 : decode cX1_become 78 = .ok (.iconst 0, 1) := by decide +kernel
theorem dX1_become_79 : decode cX1_become 79 = .ok (.bipush 10, 2) := by decide +kernel
theorem dX1_become_81 : decode cX1_become 81 = .ok (.invokestatic 53, 3) := by decide +kernel
theorem dX1_become_84 : decode cX1_become 84 = .ok (.aload_n 1, 1) := by decide +kernel
theorem dX1_become_85 : decode cX1_become 85 = .ok (.getfield 28, 3) := by decide +kernel
theorem dX1_become_88 : decode cX1_become 88 = .ok (.iconst 0, 1) := by decide +kernel
theorem dX1_become_89 : decode cX1_become 89 = .ok (.aload_n 0, 1) := by decide +kernel
theorem dX1_become_90 : decode cX1_become 90 = .ok (.getfield 28, 3) := by decide +kernel
theorem dX1_become_93 : decode cX1_become 93 = .ok (.iconst 0, 1) := by decide +kernel
theorem dX1_become_94 : decode cX1_become 94 = .ok (.bipush 6, 2) := by decide +kernel
theorem dX1_become_96 : decode cX1_become 96 = .ok (.invokestatic 53, 3) := by decide +kernel
theorem dX1_become_99 : decode cX1_become 99 = .ok (.return_, 1) := by decide +kernel
def f_X1_become (N : Nat) (c0 : Nat) (c1 : Nat) (M : Mem) : Option (Mem) := nm (setI M c0 0 (M.1 c1 0)) (fun M1 => nm (setI M1 c0 1 (M1.1 c1 1)) (fun M2 => nm (setI M2 c0 2 (M2.1 c1 2)) (fun M3 => ck (cpOk (0 : Int32) (0 : Int32) (10 : Int32) 10 10) (nm (putI M3 (c0 + 1) (va_cpy (M3.1 (c1 + 1)) (M3.1 (c0 + 1)) (0 : Int32).toNatClampNeg (0 : Int32).toNatClampNeg (10 : Int32).toNatClampNeg)) (fun M4 => ck (cpOk (0 : Int32) (0 : Int32) (10 : Int32) 10 10) (nm (putI M4 (c0 + 2) (va_cpy (M4.1 (c1 + 2)) (M4.1 (c0 + 2)) (0 : Int32).toNatClampNeg (0 : Int32).toNatClampNeg (10 : Int32).toNatClampNeg)) (fun M5 => ck (cpOk (0 : Int32) (0 : Int32) (10 : Int32) 10 10) (nm (putI M5 (c0 + 3) (va_cpy (M5.1 (c1 + 3)) (M5.1 (c0 + 3)) (0 : Int32).toNatClampNeg (0 : Int32).toNatClampNeg (10 : Int32).toNatClampNeg)) (fun M6 => ck (cpOk (0 : Int32) (0 : Int32) (10 : Int32) 10 10) (nm (putI M6 (c0 + 4) (va_cpy (M6.1 (c1 + 4)) (M6.1 (c0 + 4)) (0 : Int32).toNatClampNeg (0 : Int32).toNatClampNeg (10 : Int32).toNatClampNeg)) (fun M7 => ck (cpOk (0 : Int32) (0 : Int32) (6 : Int32) 6 6) (nm (putJ M7 (c0 + 5) (va_cpy (M7.2 (c1 + 5)) (M7.2 (c0 + 5)) (0 : Int32).toNatClampNeg (0 : Int32).toNatClampNeg (6 : Int32).toNatClampNeg)) (fun M8 => some M8)))))))))))))
set_option maxRecDepth 100000 in
set_option maxHeartbeats 4000000 in
theorem c_X1_become {l : Launch} {D : va_G} {ac : Nat → ClassId} {A : Nat → Prop} {ad : Nat → Nat} {rest : va_W} (N : Nat) (c0 : Nat) (c1 : Nat) (hc0 : NetAt tabX c0) (hc1 : NetAt tabX c1) (M : Mem)  (M0 : Mem) (hf : f_X1_become N c0 c1 M = some M0) : CtV l D ac A tabX ad rest yX1_become cX1_become 2  1 [.ref (ad c0), .ref (ad c1)] M  M0 := by
  refine ct_ofV (own := RX1) (by decide +kernel) rfl (Nat.le_of_ble_eq_true rfl) ?_
  intro p e s m args below meth c C
  unfold f_X1_become at hf
  refine a_L (L' := [(0, .ref (ad c0)), (1, .ref (ad c1))]) rfl ?_
  refine a_aload_n (pc := 0) C dX1_become_0 0 rfl ?_
  refine a_aload_n (pc := 1) C dX1_become_1 1 rfl ?_
  refine a_getI (pc := 2) C dX1_become_2 fl_X1_32 hc1.1 rfl ?_
  refine a_putI (pc := 5) C dX1_become_5 fl_X1_32 hc0.1 rfl hf (fun M1 hf => ?_)
  refine a_aload_n (pc := 8) C dX1_become_8 0 rfl ?_
  refine a_aload_n (pc := 9) C dX1_become_9 1 rfl ?_
  refine a_getI (pc := 10) C dX1_become_10 fl_X1_35 hc1.1 rfl ?_
  refine a_putI (pc := 13) C dX1_become_13 fl_X1_35 hc0.1 rfl hf (fun M2 hf => ?_)
  refine a_aload_n (pc := 16) C dX1_become_16 0 rfl ?_
  refine a_aload_n (pc := 17) C dX1_become_17 1 rfl ?_
  refine a_getI (pc := 18) C dX1_become_18 fl_X1_9 hc1.1 rfl ?_
  refine a_putI (pc := 21) C dX1_become_21 fl_X1_9 hc0.1 rfl hf (fun M3 hf => ?_)
  refine a_aload_n (pc := 24) C dX1_become_24 1 rfl ?_
  refine a_getR (pc := 25) C dX1_become_25 fl_X1_15 hc1.1 rfl ?_
  refine a_iconst (pc := 28) (v := 0) C dX1_become_28 (by decide) ?_
  refine a_aload_n (pc := 29) C dX1_become_29 0 rfl ?_
  refine a_getR (pc := 30) C dX1_become_30 fl_X1_15 hc0.1 rfl ?_
  refine a_iconst (pc := 33) (v := 0) C dX1_become_33 (by decide) ?_
  refine a_bipush (pc := 34) (v := 10) C dX1_become_34 (by decide) ?_
  refine a_copyI (pc := 36) C dX1_become_36 ml_X1_53 hc1.2.1 hc0.2.1 (Nat.le_of_ble_eq_true rfl) (Nat.le_of_ble_eq_true rfl) hf (fun M4 hf => ?_)
  refine a_aload_n (pc := 39) C dX1_become_39 1 rfl ?_
  refine a_getR (pc := 40) C dX1_become_40 fl_X1_19 hc1.1 rfl ?_
  refine a_iconst (pc := 43) (v := 0) C dX1_become_43 (by decide) ?_
  refine a_aload_n (pc := 44) C dX1_become_44 0 rfl ?_
  refine a_getR (pc := 45) C dX1_become_45 fl_X1_19 hc0.1 rfl ?_
  refine a_iconst (pc := 48) (v := 0) C dX1_become_48 (by decide) ?_
  refine a_bipush (pc := 49) (v := 10) C dX1_become_49 (by decide) ?_
  refine a_copyI (pc := 51) C dX1_become_51 ml_X1_53 hc1.2.2.1 hc0.2.2.1 (Nat.le_of_ble_eq_true rfl) (Nat.le_of_ble_eq_true rfl) hf (fun M5 hf => ?_)
  refine a_aload_n (pc := 54) C dX1_become_54 1 rfl ?_
  refine a_getR (pc := 55) C dX1_become_55 fl_X1_22 hc1.1 rfl ?_
  refine a_iconst (pc := 58) (v := 0) C dX1_become_58 (by decide) ?_
  refine a_aload_n (pc := 59) C dX1_become_59 0 rfl ?_
  refine a_getR (pc := 60) C dX1_become_60 fl_X1_22 hc0.1 rfl ?_
  refine a_iconst (pc := 63) (v := 0) C dX1_become_63 (by decide) ?_
  refine a_bipush (pc := 64) (v := 10) C dX1_become_64 (by decide) ?_
  refine a_copyI (pc := 66) C dX1_become_66 ml_X1_53 hc1.2.2.2.1 hc0.2.2.2.1 (Nat.le_of_ble_eq_true rfl) (Nat.le_of_ble_eq_true rfl) hf (fun M6 hf => ?_)
  refine a_aload_n (pc := 69) C dX1_become_69 1 rfl ?_
  refine a_getR (pc := 70) C dX1_become_70 fl_X1_25 hc1.1 rfl ?_
  refine a_iconst (pc := 73) (v := 0) C dX1_become_73 (by decide) ?_
  refine a_aload_n (pc := 74) C dX1_become_74 0 rfl ?_
  refine a_getR (pc := 75) C dX1_become_75 fl_X1_25 hc0.1 rfl ?_
  refine a_iconst (pc := 78) (v := 0) C dX1_become_78 (by decide) ?_
  refine a_bipush (pc := 79) (v := 10) C dX1_become_79 (by decide) ?_
  refine a_copyI (pc := 81) C dX1_become_81 ml_X1_53 hc1.2.2.2.2.1 hc0.2.2.2.2.1 (Nat.le_of_ble_eq_true rfl) (Nat.le_of_ble_eq_true rfl) hf (fun M7 hf => ?_)
  refine a_aload_n (pc := 84) C dX1_become_84 1 rfl ?_
  refine a_getR (pc := 85) C dX1_become_85 fl_X1_28 hc1.1 rfl ?_
  refine a_iconst (pc := 88) (v := 0) C dX1_become_88 (by decide) ?_
  refine a_aload_n (pc := 89) C dX1_become_89 0 rfl ?_
  refine a_getR (pc := 90) C dX1_become_90 fl_X1_28 hc0.1 rfl ?_
  refine a_iconst (pc := 93) (v := 0) C dX1_become_93 (by decide) ?_
  refine a_bipush (pc := 94) (v := 6) C dX1_become_94 (by decide) ?_
  refine a_copyJ (pc := 96) C dX1_become_96 ml_X1_53 hc1.2.2.2.2.2 hc0.2.2.2.2.2 (Nat.le_of_ble_eq_true rfl) (Nat.le_of_ble_eq_true rfl) hf (fun M8 hf => ?_)
  exact a_vret (pc := 99) C dX1_become_99 (Option.some.inj hf)
theorem dX1_draw_0 : decode cX1_draw 0 = .ok (.aload_n 0, 1) := by decide +kernel
theorem dX1_draw_1 : decode cX1_draw 1 = .ok (.aload_n 0, 1) := by decide +kernel
theorem dX1_draw_2 : decode cX1_draw 2 = .ok (.getfield 9, 3) := by decide +kernel
theorem dX1_draw_5 : decode cX1_draw 5 = .ok (.ldc 59, 2) := by decide +kernel
theorem dX1_draw_7 : decode cX1_draw 7 = .ok (.imul, 1) := by decide +kernel
theorem dX1_draw_8 : decode cX1_draw 8 = .ok (.sipush 12345, 3) := by decide +kernel
theorem dX1_draw_11 : decode cX1_draw 11 = .ok (.iadd, 1) := by decide +kernel
theorem dX1_draw_12 : decode cX1_draw 12 = .ok (.putfield 9, 3) := by decide +kernel
theorem dX1_draw_15 : decode cX1_draw 15 = .ok (.aload_n 0, 1) := by decide +kernel
theorem dX1_draw_16 : decode cX1_draw 16 = .ok (.getfield 9, 3) := by decide +kernel
theorem dX1_draw_19 : decode cX1_draw 19 = .ok (.bipush 16, 2) := by decide +kernel
theorem dX1_draw_21 : decode cX1_draw 21 = .ok (.iushr, 1) := by decide +kernel
theorem dX1_draw_22 : decode cX1_draw 22 = .ok (.ireturn, 1) := by decide +kernel
def f_X1_draw (N : Nat) (c0 : Nat) (M : Mem) : Option (Int32 × Mem) := nm (setI M c0 2 (((M.1 c0 2) * (1103515245 : Int32)) + (12345 : Int32))) (fun M1 => some ((ushrI (M1.1 c0 2) (16 : Int32)), M1))
set_option maxRecDepth 100000 in
set_option maxHeartbeats 4000000 in
theorem c_X1_draw {l : Launch} {D : va_G} {ac : Nat → ClassId} {A : Nat → Prop} {ad : Nat → Nat} {rest : va_W} (N : Nat) (c0 : Nat) (hc0 : NetAt tabX c0) (M : Mem) (r0 : Int32) (M0 : Mem) (hf : f_X1_draw N c0 M = some (r0, M0)) : CtI l D ac A tabX ad rest yX1_draw cX1_draw 1 .int 1 [.ref (ad c0)] M r0 M0 := by
  refine ct_ofI (own := RX1) (by decide +kernel) rfl (Nat.le_of_ble_eq_true rfl) ?_
  intro p e s m args below meth c C
  unfold f_X1_draw at hf
  refine a_L (L' := [(0, .ref (ad c0))]) rfl ?_
  refine a_aload_n (pc := 0) C dX1_draw_0 0 rfl ?_
  refine a_aload_n (pc := 1) C dX1_draw_1 0 rfl ?_
  refine a_getI (pc := 2) C dX1_draw_2 fl_X1_9 hc0.1 rfl ?_
  refine a_ldc (pc := 5) C dX1_draw_5 co_X1_59 ?_
  refine a_imul (pc := 7) C dX1_draw_7 ?_
  refine a_sipush (pc := 8) (v := 12345) C dX1_draw_8 (by decide) ?_
  refine a_iadd (pc := 11) C dX1_draw_11 ?_
  refine a_putI (pc := 12) C dX1_draw_12 fl_X1_9 hc0.1 rfl hf (fun M1 hf => ?_)
  refine a_aload_n (pc := 15) C dX1_draw_15 0 rfl ?_
  refine a_getI (pc := 16) C dX1_draw_16 fl_X1_9 hc0.1 rfl ?_
  refine a_bipush (pc := 19) (v := 16) C dX1_draw_19 (by decide) ?_
  refine a_iushr (pc := 21) C dX1_draw_21 ?_
  exact a_iret (pc := 22) C dX1_draw_22 (so_1 hf) (so_2 hf)
theorem dX2_isTrialLess_0 : decode cX2_isTrialLess 0 = .ok (.iconst 0, 1) := by decide +kernel
theorem dX2_isTrialLess_1 : decode cX2_isTrialLess 1 = .ok (.istore_n 2, 1) := by decide +kernel
theorem dX2_isTrialLess_2 : decode cX2_isTrialLess 2 = .ok (.iload_n 2, 1) := by decide +kernel
theorem dX2_isTrialLess_3 : decode cX2_isTrialLess 3 = .ok (.iload_n 1, 1) := by decide +kernel
theorem dX2_isTrialLess_4 : decode cX2_isTrialLess 4 = .ok (.if_icmp .ge 45, 3) := by decide +kernel
theorem dX2_isTrialLess_7 : decode cX2_isTrialLess 7 = .ok (.aload_n 0, 1) := by decide +kernel
theorem dX2_isTrialLess_8 : decode cX2_isTrialLess 8 = .ok (.getfield 15, 3) := by decide +kernel
theorem dX2_isTrialLess_11 : decode cX2_isTrialLess 11 = .ok (.iload_n 2, 1) := by decide +kernel
theorem dX2_isTrialLess_12 : decode cX2_isTrialLess 12 = .ok (.iaload, 1) := by decide +kernel
theorem dX2_isTrialLess_13 : decode cX2_isTrialLess 13 = .ok (.aload_n 0, 1) := by decide +kernel
theorem dX2_isTrialLess_14 : decode cX2_isTrialLess 14 = .ok (.getfield 9, 3) := by decide +kernel
theorem dX2_isTrialLess_17 : decode cX2_isTrialLess 17 = .ok (.iload_n 2, 1) := by decide +kernel
theorem dX2_isTrialLess_18 : decode cX2_isTrialLess 18 = .ok (.iaload, 1) := by decide +kernel
theorem dX2_isTrialLess_19 : decode cX2_isTrialLess 19 = .ok (.if_icmp .eq 24, 3) := by decide +kernel
theorem dX2_isTrialLess_22 : decode cX2_isTrialLess 22 = .ok (.aload_n 0, 1) := by decide +kernel
theorem dX2_isTrialLess_23 : decode cX2_isTrialLess 23 = .ok (.getfield 15, 3) := by decide +kernel
theorem dX2_isTrialLess_26 : decode cX2_isTrialLess 26 = .ok (.iload_n 2, 1) := by decide +kernel
theorem dX2_isTrialLess_27 : decode cX2_isTrialLess 27 = .ok (.iaload, 1) := by decide +kernel
theorem dX2_isTrialLess_28 : decode cX2_isTrialLess 28 = .ok (.aload_n 0, 1) := by decide +kernel
theorem dX2_isTrialLess_29 : decode cX2_isTrialLess 29 = .ok (.getfield 9, 3) := by decide +kernel
theorem dX2_isTrialLess_32 : decode cX2_isTrialLess 32 = .ok (.iload_n 2, 1) := by decide +kernel
theorem dX2_isTrialLess_33 : decode cX2_isTrialLess 33 = .ok (.iaload, 1) := by decide +kernel
theorem dX2_isTrialLess_34 : decode cX2_isTrialLess 34 = .ok (.if_icmp .ge 7, 3) := by decide +kernel
theorem dX2_isTrialLess_37 : decode cX2_isTrialLess 37 = .ok (.iconst 1, 1) := by decide +kernel
theorem dX2_isTrialLess_38 : decode cX2_isTrialLess 38 = .ok (.goto 4, 3) := by decide +kernel
theorem dX2_isTrialLess_41 : decode cX2_isTrialLess 41 = .ok (.iconst 0, 1) := by decide +kernel
theorem dX2_isTrialLess_42 : decode cX2_isTrialLess 42 = .ok (.ireturn, 1) := by decide +kernel
theorem dX2_isTrialLess_43 : decode cX2_isTrialLess 43 = .ok (.iinc 2 1, 3) := by decide +kernel
theorem dX2_isTrialLess_46 : decode cX2_isTrialLess 46 = .ok (.goto (-44), 3) := by decide +kernel
theorem dX2_isTrialLess_49 : decode cX2_isTrialLess 49 = .ok (.iconst 0, 1) := by decide +kernel
theorem dX2_isTrialLess_50 : decode cX2_isTrialLess 50 = .ok (.ireturn, 1) := by decide +kernel
def f_X2_isTrialLess (N : Nat) (x1 : Int32) (M : Mem) : Option (Int32) := lp (fun (k2 : Int32 → Option (Int32)) (a2 : Int32) => if x1 ≤ a2 then (some (0 : Int32)) else (ck (inb a2 6) (ck (inb a2 6) (if (M.1 28 a2.toNatClampNeg) = (M.1 27 a2.toNatClampNeg) then (nm (a2 + (1 : Int32)) (fun v1 => k2 v1)) else (ck (inb a2 6) (ck (inb a2 6) (if (M.1 27 a2.toNatClampNeg) ≤ (M.1 28 a2.toNatClampNeg) then (some (0 : Int32)) else (some (1 : Int32))))))))) N (0 : Int32)
set_option maxRecDepth 100000 in
set_option maxHeartbeats 4000000 in
theorem c_X2_isTrialLess {l : Launch} {D : va_G} {ac : Nat → ClassId} {A : Nat → Prop} {ad : Nat → Nat} {rest : va_W} (N : Nat) (x1 : Int32)  (M : Mem) (r0 : Int32) (hf : f_X2_isTrialLess N x1 M = some r0) : CtI l D ac A tabX ad rest yX2_isTrialLess cX2_isTrialLess 3 .boolean 1 [.ref (ad 26), .int x1] M r0 M := by
  refine ct_ofI (own := RX2) (by decide +kernel) rfl (Nat.le_of_ble_eq_true rfl) ?_
  intro p e s m args below meth c C
  unfold f_X2_isTrialLess at hf
  refine a_L (L' := [(0, .ref (ad 26)), (1, .int x1)]) rfl ?_
  refine a_iconst (pc := 0) (v := 0) C dX2_isTrialLess_0 (by decide) ?_
  refine a_istore_n (pc := 1) [(2, .int (0 : Int32)), (0, .ref (ad 26)), (1, .int x1)] C dX2_isTrialLess_1 (by decide) rfl ?_
  refine a_sub [1, 2, 0] rfl ?_
  refine a_lp 2 (fun a2 : Int32 => [(0, .ref (ad 26)), (1, .int x1), (2, .int a2)]) (fun a2 : Int32 => []) (fun a2 : Int32 => M) (fun k2 a2 hk2 hf => ?_) N (0 : Int32) hf
  refine a_iload_n (pc := 2) C dX2_isTrialLess_2 2 rfl ?_
  refine a_iload_n (pc := 3) C dX2_isTrialLess_3 1 rfl ?_
  refine a_icmp_ge (pc := 4) 49 C dX2_isTrialLess_4 (by decide) hf (fun hf => ?_) (fun hf => ?_)
  · refine a_iconst (pc := 49) (v := 0) C dX2_isTrialLess_49 (by decide) ?_
    exact a_zret (pc := 50) C dX2_isTrialLess_50 (Or.inl rfl) (Option.some.inj hf) rfl
  · refine a_aload_n (pc := 7) C dX2_isTrialLess_7 0 rfl ?_
    refine a_getR (pc := 8) C dX2_isTrialLess_8 fl_X2_15 tx_26 rfl ?_
    refine a_iload_n (pc := 11) C dX2_isTrialLess_11 2 rfl ?_
    refine a_iald (pc := 12) C dX2_isTrialLess_12 tx_28 hf (fun hf => ?_)
    refine a_aload_n (pc := 13) C dX2_isTrialLess_13 0 rfl ?_
    refine a_getR (pc := 14) C dX2_isTrialLess_14 fl_X2_9 tx_26 rfl ?_
    refine a_iload_n (pc := 17) C dX2_isTrialLess_17 2 rfl ?_
    refine a_iald (pc := 18) C dX2_isTrialLess_18 tx_27 hf (fun hf => ?_)
    refine a_icmp_eq (pc := 19) 43 C dX2_isTrialLess_19 (by decide) hf (fun hf => ?_) (fun hf => ?_)
    · refine a_iinc (pc := 43) (v := 1) (fun v1 => [(2, .int v1), (0, .ref (ad 26)), (1, .int x1)]) C dX2_isTrialLess_43 2 rfl (by decide) (by decide) (fun _ => rfl) hf (fun v1 hf => ?_)
      refine a_goto (pc := 46) 2 C dX2_isTrialLess_46 (by decide) ?_
      exact a_sub [1, 2, 0] rfl (hk2 v1 hf)
    · refine a_aload_n (pc := 22) C dX2_isTrialLess_22 0 rfl ?_
      refine a_getR (pc := 23) C dX2_isTrialLess_23 fl_X2_15 tx_26 rfl ?_
      refine a_iload_n (pc := 26) C dX2_isTrialLess_26 2 rfl ?_
      refine a_iald (pc := 27) C dX2_isTrialLess_27 tx_28 hf (fun hf => ?_)
      refine a_aload_n (pc := 28) C dX2_isTrialLess_28 0 rfl ?_
      refine a_getR (pc := 29) C dX2_isTrialLess_29 fl_X2_9 tx_26 rfl ?_
      refine a_iload_n (pc := 32) C dX2_isTrialLess_32 2 rfl ?_
      refine a_iald (pc := 33) C dX2_isTrialLess_33 tx_27 hf (fun hf => ?_)
      refine a_icmp_ge (pc := 34) 41 C dX2_isTrialLess_34 (by decide) hf (fun hf => ?_) (fun hf => ?_)
      · refine a_iconst (pc := 41) (v := 0) C dX2_isTrialLess_41 (by decide) ?_
        exact a_zret (pc := 42) C dX2_isTrialLess_42 (Or.inl rfl) (Option.some.inj hf) rfl
      · refine a_iconst (pc := 37) (v := 1) C dX2_isTrialLess_37 (by decide) ?_
        refine a_goto (pc := 38) 42 C dX2_isTrialLess_38 (by decide) ?_
        exact a_zret (pc := 42) C dX2_isTrialLess_42 (Or.inr rfl) (Option.some.inj hf) rfl
theorem dX2_apartFrom_0 : decode cX2_apartFrom 0 = .ok (.iconst 2, 1) := by decide +kernel
theorem dX2_apartFrom_1 : decode cX2_apartFrom 1 = .ok (.iload_n 2, 1) := by decide +kernel
theorem dX2_apartFrom_2 : decode cX2_apartFrom 2 = .ok (.imul, 1) := by decide +kernel
theorem dX2_apartFrom_3 : decode cX2_apartFrom 3 = .ok (.aload_n 0, 1) := by decide +kernel
theorem dX2_apartFrom_4 : decode cX2_apartFrom 4 = .ok (.getfield 25, 3) := by decide +kernel
theorem dX2_apartFrom_7 : decode cX2_apartFrom 7 = .ok (.if_icmp .le 5, 3) := by decide +kernel
theorem dX2_apartFrom_10 : decode cX2_apartFrom 10 = .ok (.lconst 0, 1) := by decide +kernel
theorem dX2_apartFrom_11 : decode cX2_apartFrom 11 = .ok (.lreturn, 1) := by decide +kernel
theorem dX2_apartFrom_12 : decode cX2_apartFrom 12 = .ok (.lconst 1, 1) := by decide +kernel
theorem dX2_apartFrom_13 : decode cX2_apartFrom 13 = .ok (.aload_n 0, 1) := by decide +kernel
theorem dX2_apartFrom_14 : decode cX2_apartFrom 14 = .ok (.getfield 25, 3) := by decide +kernel
theorem dX2_apartFrom_17 : decode cX2_apartFrom 17 = .ok (.iconst 2, 1) := by decide +kernel
theorem dX2_apartFrom_18 : decode cX2_apartFrom 18 = .ok (.iload_n 2, 1) := by decide +kernel
theorem dX2_apartFrom_19 : decode cX2_apartFrom 19 = .ok (.imul, 1) := by decide +kernel
theorem dX2_apartFrom_20 : decode cX2_apartFrom 20 = .ok (.isub, 1) := by decide +kernel
theorem dX2_apartFrom_21 : decode cX2_apartFrom 21 = .ok (.iconst 1, 1) := by decide +kernel
theorem dX2_apartFrom_22 : decode cX2_apartFrom 22 = .ok (.iadd, 1) := by decide +kernel
theorem dX2_apartFrom_23 : decode cX2_apartFrom 23 = .ok (.lshl, 1) := by decide +kernel
theorem dX2_apartFrom_24 : decode cX2_apartFrom 24 = .ok (.lconst 1, 1) := by decide +kernel
theorem dX2_apartFrom_25 : decode cX2_apartFrom 25 = .ok (.lsub, 1) := by decide +kernel
theorem dX2_apartFrom_26 : decode cX2_apartFrom 26 = .ok (.iload_n 2, 1) := by decide +kernel
theorem dX2_apartFrom_27 : decode cX2_apartFrom 27 = .ok (.lshl, 1) := by decide +kernel
theorem dX2_apartFrom_28 : decode cX2_apartFrom 28 = .ok (.lstore_n 3, 1) := by decide +kernel
theorem dX2_apartFrom_29 : decode cX2_apartFrom 29 = .ok (.lload_n 3, 1) := by decide +kernel
theorem dX2_apartFrom_30 : decode cX2_apartFrom 30 = .ok (.iload_n 1, 1) := by decide +kernel
theorem dX2_apartFrom_31 : decode cX2_apartFrom 31 = .ok (.lshl, 1) := by decide +kernel
theorem dX2_apartFrom_32 : decode cX2_apartFrom 32 = .ok (.lload_n 3, 1) := by decide +kernel
theorem dX2_apartFrom_33 : decode cX2_apartFrom 33 = .ok (.aload_n 0, 1) := by decide +kernel
theorem dX2_apartFrom_34 : decode cX2_apartFrom 34 = .ok (.getfield 25, 3) := by decide +kernel
theorem dX2_apartFrom_37 : decode cX2_apartFrom 37 = .ok (.iload_n 1, 1) := by decide +kernel
theorem dX2_apartFrom_38 : decode cX2_apartFrom 38 = .ok (.isub, 1) := by decide +kernel
theorem dX2_apartFrom_39 : decode cX2_apartFrom 39 = .ok (.lushr, 1) := by decide +kernel
theorem dX2_apartFrom_40 : decode cX2_apartFrom 40 = .ok (.lor, 1) := by decide +kernel
theorem dX2_apartFrom_41 : decode cX2_apartFrom 41 = .ok (.lreturn, 1) := by decide +kernel
def f_X2_apartFrom (N : Nat) (x1 : Int32) (x2 : Int32) (M : Mem) : Option (Int64) := if ((2 : Int32) * x2) ≤ (M.1 26 1) then (nm ((((1 : Int64) <<< ((((M.1 26 1) - ((2 : Int32) * x2)) + (1 : Int32)).toInt64 &&& 63)) - (1 : Int64)) <<< (x2.toInt64 &&& 63)) (fun v1 => some ((v1 <<< (x1.toInt64 &&& 63)) ||| (ushrJ v1 ((M.1 26 1) - x1))))) else (some (0 : Int64))
set_option maxRecDepth 100000 in
set_option maxHeartbeats 4000000 in
theorem c_X2_apartFrom {l : Launch} {D : va_G} {ac : Nat → ClassId} {A : Nat → Prop} {ad : Nat → Nat} {rest : va_W} (N : Nat) (x1 : Int32) (x2 : Int32)  (M : Mem) (r0 : Int64) (hf : f_X2_apartFrom N x1 x2 M = some r0) : CtJ l D ac A tabX ad rest yX2_apartFrom cX2_apartFrom 5  1 [.ref (ad 26), .int x1, .int x2] M r0 M := by
  refine ct_ofJ (own := RX2) (by decide +kernel) rfl (Nat.le_of_ble_eq_true rfl) ?_
  intro p e s m args below meth c C
  unfold f_X2_apartFrom at hf
  refine a_L (L' := [(0, .ref (ad 26)), (1, .int x1), (2, .int x2)]) rfl ?_
  refine a_iconst (pc := 0) (v := 2) C dX2_apartFrom_0 (by decide) ?_
  refine a_iload_n (pc := 1) C dX2_apartFrom_1 2 rfl ?_
  refine a_imul (pc := 2) C dX2_apartFrom_2 ?_
  refine a_aload_n (pc := 3) C dX2_apartFrom_3 0 rfl ?_
  refine a_getI (pc := 4) C dX2_apartFrom_4 fl_X2_25 tx_26 rfl ?_
  refine a_icmp_le (pc := 7) 12 C dX2_apartFrom_7 (by decide) hf (fun hf => ?_) (fun hf => ?_)
  · refine a_lconst (pc := 12) (v := 1) C dX2_apartFrom_12 (by decide) ?_
    refine a_aload_n (pc := 13) C dX2_apartFrom_13 0 rfl ?_
    refine a_getI (pc := 14) C dX2_apartFrom_14 fl_X2_25 tx_26 rfl ?_
    refine a_iconst (pc := 17) (v := 2) C dX2_apartFrom_17 (by decide) ?_
    refine a_iload_n (pc := 18) C dX2_apartFrom_18 2 rfl ?_
    refine a_imul (pc := 19) C dX2_apartFrom_19 ?_
    refine a_isub (pc := 20) C dX2_apartFrom_20 ?_
    refine a_iconst (pc := 21) (v := 1) C dX2_apartFrom_21 (by decide) ?_
    refine a_iadd (pc := 22) C dX2_apartFrom_22 ?_
    refine a_lshl (pc := 23) C dX2_apartFrom_23 ?_
    refine a_lconst (pc := 24) (v := 1) C dX2_apartFrom_24 (by decide) ?_
    refine a_lsub (pc := 25) C dX2_apartFrom_25 ?_
    refine a_iload_n (pc := 26) C dX2_apartFrom_26 2 rfl ?_
    refine a_lshl (pc := 27) C dX2_apartFrom_27 ?_
    refine a_nml hf (fun v1 hf => ?_)
    refine a_lstore_n (pc := 28) [(3, .long v1), (0, .ref (ad 26)), (1, .int x1), (2, .int x2)] C dX2_apartFrom_28 (by decide) rfl ?_
    refine a_lload_n (pc := 29) C dX2_apartFrom_29 0 rfl ?_
    refine a_iload_n (pc := 30) C dX2_apartFrom_30 2 rfl ?_
    refine a_lshl (pc := 31) C dX2_apartFrom_31 ?_
    refine a_lload_n (pc := 32) C dX2_apartFrom_32 0 rfl ?_
    refine a_aload_n (pc := 33) C dX2_apartFrom_33 1 rfl ?_
    refine a_getI (pc := 34) C dX2_apartFrom_34 fl_X2_25 tx_26 rfl ?_
    refine a_iload_n (pc := 37) C dX2_apartFrom_37 2 rfl ?_
    refine a_isub (pc := 38) C dX2_apartFrom_38 ?_
    refine a_lushr (pc := 39) C dX2_apartFrom_39 ?_
    refine a_lor (pc := 40) C dX2_apartFrom_40 ?_
    exact a_lret (pc := 41) C dX2_apartFrom_41 (Option.some.inj hf) rfl
  · refine a_lconst (pc := 10) (v := 0) C dX2_apartFrom_10 (by decide) ?_
    exact a_lret (pc := 11) C dX2_apartFrom_11 (Option.some.inj hf) rfl
theorem dX3_plus_0 : decode cX3_plus 0 = .ok (.lload_n 1, 1) := by decide +kernel
theorem dX3_plus_1 : decode cX3_plus 1 = .ok (.lload_n 3, 1) := by decide +kernel
theorem dX3_plus_2 : decode cX3_plus 2 = .ok (.ladd, 1) := by decide +kernel
theorem dX3_plus_3 : decode cX3_plus 3 = .ok (.lstore 5, 2) := by decide +kernel
theorem dX3_plus_5 : decode cX3_plus 5 = .ok (.aload_n 0, 1) := by decide +kernel
theorem dX3_plus_6 : decode cX3_plus 6 = .ok (.dup, 1) := by decide +kernel
theorem dX3_plus_7 : decode cX3_plus 7 = .ok (.getfield 30, 3) := by decide +kernel
theorem dX3_plus_10 : decode cX3_plus 10 = .ok (.lload_n 1, 1) := by decide +kernel
theorem dX3_plus_11 : decode cX3_plus 11 = .ok (.lload 5, 2) := by decide +kernel
theorem dX3_plus_13 : decode cX3_plus 13 = .ok (.lxor, 1) := by decide +kernel
theorem dX3_plus_14 : decode cX3_plus 14 = .ok (.lload_n 3, 1) := by decide +kernel
theorem dX3_plus_15 : decode cX3_plus 15 = .ok (.lload 5, 2) := by decide +kernel
theorem dX3_plus_17 : decode cX3_plus 17 = .ok (.lxor, 1) := by decide +kernel
theorem dX3_plus_18 : decode cX3_plus 18 = .ok (.land, 1) := by decide +kernel
theorem dX3_plus_19 : decode cX3_plus 19 = .ok (.lconst 0, 1) := by decide +kernel
theorem dX3_plus_20 : decode cX3_plus 20 = .ok (.lcmp, 1) := by decide +kernel
theorem dX3_plus_21 : decode cX3_plus 21 = .ok (.ifCond .ge 7, 3) := by decide +kernel
theorem dX3_plus_24 : decode cX3_plus 24 = .ok (.iconst 1, 1) := by decide +kernel
theorem dX3_plus_25 : decode cX3_plus 25 = .ok (.goto 4, 3) := by decide +kernel
theorem dX3_plus_28 : decode cX3_plus 28 = .ok (.iconst 0, 1) := by decide +kernel
theorem dX3_plus_29 : decode cX3_plus 29 = .ok (.ior, 1) := by decide +kernel
theorem dX3_plus_30 : decode cX3_plus 30 = .ok (.putfield 30, 3) := by decide +kernel
theorem dX3_plus_33 : decode cX3_plus 33 = .ok (.lload 5, 2) := by decide +kernel
theorem dX3_plus_35 : decode cX3_plus 35 = .ok (.lreturn, 1) := by decide +kernel
def f_X3_plus (N : Nat) (x1 : Int64) (x3 : Int64) (M : Mem) : Option (Int64 × Mem) := nm (x1 + x3) (fun v1 => jn (fun (a29 : Int32) => ck (((M.1 33 0) ||| a29) = 0 ∨ ((M.1 33 0) ||| a29) = 1) (nm (setI M 33 0 ((M.1 33 0) ||| a29)) (fun M2 => some (v1, M2)))) (fun (k29 : Int32 → Option (Int64 × Mem)) => if 0 ≤ (lg_cmp ((x1 ^^^ v1) &&& (x3 ^^^ v1)) (0 : Int64)) then (k29 (0 : Int32)) else (k29 (1 : Int32))))
set_option maxRecDepth 100000 in
set_option maxHeartbeats 4000000 in
theorem c_X3_plus {l : Launch} {D : va_G} {ac : Nat → ClassId} {A : Nat → Prop} {ad : Nat → Nat} {rest : va_W} (N : Nat) (x1 : Int64) (x3 : Int64)  (M : Mem) (r0 : Int64) (M0 : Mem) (hf : f_X3_plus N x1 x3 M = some (r0, M0)) : CtJ l D ac A tabX ad rest yX3_plus cX3_plus 7  1 [.ref (ad 33), .long x1, .long x3] M r0 M0 := by
  refine ct_ofJ (own := RX3) (by decide +kernel) rfl (Nat.le_of_ble_eq_true rfl) ?_
  intro p e s m args below meth c C
  unfold f_X3_plus at hf
  refine a_L (L' := [(0, .ref (ad 33)), (1, .long x1), (3, .long x3)]) rfl ?_
  refine a_lload_n (pc := 0) C dX3_plus_0 1 rfl ?_
  refine a_lload_n (pc := 1) C dX3_plus_1 2 rfl ?_
  refine a_ladd (pc := 2) C dX3_plus_2 ?_
  refine a_nml hf (fun v1 hf => ?_)
  refine a_lstore (pc := 3) [(5, .long v1), (0, .ref (ad 33)), (1, .long x1), (3, .long x3)] C dX3_plus_3 (by decide) rfl ?_
  refine a_aload_n (pc := 5) C dX3_plus_5 1 rfl ?_
  refine a_dup (pc := 6) C dX3_plus_6 rfl ?_
  refine a_getI (pc := 7) C dX3_plus_7 fl_X3_30 tx_33 rfl ?_
  refine a_lload_n (pc := 10) C dX3_plus_10 2 rfl ?_
  refine a_lload (pc := 11) C dX3_plus_11 0 rfl ?_
  refine a_lxor (pc := 13) C dX3_plus_13 ?_
  refine a_lload_n (pc := 14) C dX3_plus_14 3 rfl ?_
  refine a_lload (pc := 15) C dX3_plus_15 0 rfl ?_
  refine a_lxor (pc := 17) C dX3_plus_17 ?_
  refine a_land (pc := 18) C dX3_plus_18 ?_
  refine a_lconst (pc := 19) (v := 0) C dX3_plus_19 (by decide) ?_
  refine a_lcmp (pc := 20) C dX3_plus_20 ?_
  refine a_jn 29 (fun a29 : Int32 => [(5, .long v1)]) (fun a29 : Int32 => [.int a29, .int (M.1 33 0), .ref (ad 33)]) (fun a29 : Int32 => M) hf (fun a29 hf => ?_) (fun k29 hk29 hf => ?_)
  · refine a_ior (pc := 29) C dX3_plus_29 ?_
    refine a_putZ (pc := 30) C dX3_plus_30 fl_X3_30 tx_33 rfl hf (fun M2 hf => ?_)
    refine a_lload (pc := 33) C dX3_plus_33 0 rfl ?_
    exact a_lret (pc := 35) C dX3_plus_35 (so_1 hf) (so_2 hf)
  · refine a_if_ge (pc := 21) 28 C dX3_plus_21 (by decide) hf (fun hf => ?_) (fun hf => ?_)
    · refine a_iconst (pc := 28) (v := 0) C dX3_plus_28 (by decide) ?_
      exact a_sub [0] rfl (hk29 (0 : Int32) hf)
    · refine a_iconst (pc := 24) (v := 1) C dX3_plus_24 (by decide) ?_
      refine a_goto (pc := 25) 29 C dX3_plus_25 (by decide) ?_
      exact a_sub [0] rfl (hk29 (1 : Int32) hf)
theorem dX3_less_0 : decode cX3_less 0 = .ok (.lload_n 1, 1) := by decide +kernel
theorem dX3_less_1 : decode cX3_less 1 = .ok (.lload_n 3, 1) := by decide +kernel
theorem dX3_less_2 : decode cX3_less 2 = .ok (.lsub, 1) := by decide +kernel
theorem dX3_less_3 : decode cX3_less 3 = .ok (.lstore 5, 2) := by decide +kernel
theorem dX3_less_5 : decode cX3_less 5 = .ok (.aload_n 0, 1) := by decide +kernel
theorem dX3_less_6 : decode cX3_less 6 = .ok (.dup, 1) := by decide +kernel
theorem dX3_less_7 : decode cX3_less 7 = .ok (.getfield 30, 3) := by decide +kernel
theorem dX3_less_10 : decode cX3_less 10 = .ok (.lload_n 1, 1) := by decide +kernel
theorem dX3_less_11 : decode cX3_less 11 = .ok (.lload_n 3, 1) := by decide +kernel
theorem dX3_less_12 : decode cX3_less 12 = .ok (.lxor, 1) := by decide +kernel
theorem dX3_less_13 : decode cX3_less 13 = .ok (.lload_n 1, 1) := by decide +kernel
theorem dX3_less_14 : decode cX3_less 14 = .ok (.lload 5, 2) := by decide +kernel
theorem dX3_less_16 : decode cX3_less 16 = .ok (.lxor, 1) := by decide +kernel
theorem dX3_less_17 : decode cX3_less 17 = .ok (.land, 1) := by decide +kernel
theorem dX3_less_18 : decode cX3_less 18 = .ok (.lconst 0, 1) := by decide +kernel
theorem dX3_less_19 : decode cX3_less 19 = .ok (.lcmp, 1) := by decide +kernel
theorem dX3_less_20 : decode cX3_less 20 = .ok (.ifCond .ge 7, 3) := by decide +kernel
theorem dX3_less_23 : decode cX3_less 23 = .ok (.iconst 1, 1) := by decide +kernel
theorem dX3_less_24 : decode cX3_less 24 = .ok (.goto 4, 3) := by decide +kernel
theorem dX3_less_27 : decode cX3_less 27 = .ok (.iconst 0, 1) := by decide +kernel
theorem dX3_less_28 : decode cX3_less 28 = .ok (.ior, 1) := by decide +kernel
theorem dX3_less_29 : decode cX3_less 29 = .ok (.putfield 30, 3) := by decide +kernel
theorem dX3_less_32 : decode cX3_less 32 = .ok (.lload 5, 2) := by decide +kernel
theorem dX3_less_34 : decode cX3_less 34 = .ok (.lreturn, 1) := by decide +kernel
def f_X3_less (N : Nat) (x1 : Int64) (x3 : Int64) (M : Mem) : Option (Int64 × Mem) := nm (x1 - x3) (fun v1 => jn (fun (a28 : Int32) => ck (((M.1 33 0) ||| a28) = 0 ∨ ((M.1 33 0) ||| a28) = 1) (nm (setI M 33 0 ((M.1 33 0) ||| a28)) (fun M2 => some (v1, M2)))) (fun (k28 : Int32 → Option (Int64 × Mem)) => if 0 ≤ (lg_cmp ((x1 ^^^ x3) &&& (x1 ^^^ v1)) (0 : Int64)) then (k28 (0 : Int32)) else (k28 (1 : Int32))))
set_option maxRecDepth 100000 in
set_option maxHeartbeats 4000000 in
theorem c_X3_less {l : Launch} {D : va_G} {ac : Nat → ClassId} {A : Nat → Prop} {ad : Nat → Nat} {rest : va_W} (N : Nat) (x1 : Int64) (x3 : Int64)  (M : Mem) (r0 : Int64) (M0 : Mem) (hf : f_X3_less N x1 x3 M = some (r0, M0)) : CtJ l D ac A tabX ad rest yX3_less cX3_less 7  1 [.ref (ad 33), .long x1, .long x3] M r0 M0 := by
  refine ct_ofJ (own := RX3) (by decide +kernel) rfl (Nat.le_of_ble_eq_true rfl) ?_
  intro p e s m args below meth c C
  unfold f_X3_less at hf
  refine a_L (L' := [(0, .ref (ad 33)), (1, .long x1), (3, .long x3)]) rfl ?_
  refine a_lload_n (pc := 0) C dX3_less_0 1 rfl ?_
  refine a_lload_n (pc := 1) C dX3_less_1 2 rfl ?_
  refine a_lsub (pc := 2) C dX3_less_2 ?_
  refine a_nml hf (fun v1 hf => ?_)
  refine a_lstore (pc := 3) [(5, .long v1), (0, .ref (ad 33)), (1, .long x1), (3, .long x3)] C dX3_less_3 (by decide) rfl ?_
  refine a_aload_n (pc := 5) C dX3_less_5 1 rfl ?_
  refine a_dup (pc := 6) C dX3_less_6 rfl ?_
  refine a_getI (pc := 7) C dX3_less_7 fl_X3_30 tx_33 rfl ?_
  refine a_lload_n (pc := 10) C dX3_less_10 2 rfl ?_
  refine a_lload_n (pc := 11) C dX3_less_11 3 rfl ?_
  refine a_lxor (pc := 12) C dX3_less_12 ?_
  refine a_lload_n (pc := 13) C dX3_less_13 2 rfl ?_
  refine a_lload (pc := 14) C dX3_less_14 0 rfl ?_
  refine a_lxor (pc := 16) C dX3_less_16 ?_
  refine a_land (pc := 17) C dX3_less_17 ?_
  refine a_lconst (pc := 18) (v := 0) C dX3_less_18 (by decide) ?_
  refine a_lcmp (pc := 19) C dX3_less_19 ?_
  refine a_jn 28 (fun a28 : Int32 => [(5, .long v1)]) (fun a28 : Int32 => [.int a28, .int (M.1 33 0), .ref (ad 33)]) (fun a28 : Int32 => M) hf (fun a28 hf => ?_) (fun k28 hk28 hf => ?_)
  · refine a_ior (pc := 28) C dX3_less_28 ?_
    refine a_putZ (pc := 29) C dX3_less_29 fl_X3_30 tx_33 rfl hf (fun M2 hf => ?_)
    refine a_lload (pc := 32) C dX3_less_32 0 rfl ?_
    exact a_lret (pc := 34) C dX3_less_34 (so_1 hf) (so_2 hf)
  · refine a_if_ge (pc := 20) 27 C dX3_less_20 (by decide) hf (fun hf => ?_) (fun hf => ?_)
    · refine a_iconst (pc := 27) (v := 0) C dX3_less_27 (by decide) ?_
      exact a_sub [0] rfl (hk28 (0 : Int32) hf)
    · refine a_iconst (pc := 23) (v := 1) C dX3_less_23 (by decide) ?_
      refine a_goto (pc := 24) 28 C dX3_less_24 (by decide) ?_
      exact a_sub [0] rfl (hk28 (1 : Int32) hf)
theorem dX3_times_0 : decode cX3_times 0 = .ok (.lload_n 1, 1) := by decide +kernel
theorem dX3_times_1 : decode cX3_times 1 = .ok (.lload_n 3, 1) := by decide +kernel
theorem dX3_times_2 : decode cX3_times 2 = .ok (.lmul, 1) := by decide +kernel
theorem dX3_times_3 : decode cX3_times 3 = .ok (.lstore 5, 2) := by decide +kernel
theorem dX3_times_5 : decode cX3_times 5 = .ok (.aload_n 0, 1) := by decide +kernel
theorem dX3_times_6 : decode cX3_times 6 = .ok (.dup, 1) := by decide +kernel
theorem dX3_times_7 : decode cX3_times 7 = .ok (.getfield 30, 3) := by decide +kernel
theorem dX3_times_10 : decode cX3_times 10 = .ok (.lload_n 3, 1) := by decide +kernel
theorem dX3_times_11 : decode cX3_times 11 = .ok (.ldc2_w 34, 3) := by decide +kernel
theorem dX3_times_14 : decode cX3_times 14 = .ok (.lcmp, 1) := by decide +kernel
theorem dX3_times_15 : decode cX3_times 15 = .ok (.ifCond .ne 19, 3) := by decide +kernel
theorem dX3_times_18 : decode cX3_times 18 = .ok (.lload_n 1, 1) := by decide +kernel
theorem dX3_times_19 : decode cX3_times 19 = .ok (.ldc2_w 36, 3) := by decide +kernel
theorem dX3_times_22 : decode cX3_times 22 = .ok (.lcmp, 1) := by decide +kernel
theorem dX3_times_23 : decode cX3_times 23 = .ok (.ifCond .ne 7, 3) := by decide +kernel
theorem dX3_times_26 : decode cX3_times 26 = .ok (.iconst 1, 1) := by decide +kernel
theorem dX3_times_27 : decode cX3_times 27 = .ok (.goto 27, 3) := by decide +kernel
theorem dX3_times_30 : decode cX3_times 30 = .ok (.iconst 0, 1) := by decide +kernel
theorem dX3_times_31 : decode cX3_times 31 = .ok (.goto 23, 3) := by decide +kernel
theorem dX3_times_34 : decode cX3_times 34 = .ok (.lload_n 3, 1) := by decide +kernel
theorem dX3_times_35 : decode cX3_times 35 = .ok (.lconst 0, 1) := by decide +kernel
theorem dX3_times_36 : decode cX3_times 36 = .ok (.lcmp, 1) := by decide +kernel
theorem dX3_times_37 : decode cX3_times 37 = .ok (.ifCond .eq 16, 3) := by decide +kernel
theorem dX3_times_40 : decode cX3_times 40 = .ok (.lload 5, 2) := by decide +kernel
theorem dX3_times_42 : decode cX3_times 42 = .ok (.lload_n 3, 1) := by decide +kernel
theorem dX3_times_43 : decode cX3_times 43 = .ok (.ldiv, 1) := by decide +kernel
theorem dX3_times_44 : decode cX3_times 44 = .ok (.lload_n 1, 1) := by decide +kernel
theorem dX3_times_45 : decode cX3_times 45 = .ok (.lcmp, 1) := by decide +kernel
theorem dX3_times_46 : decode cX3_times 46 = .ok (.ifCond .eq 7, 3) := by decide +kernel
theorem dX3_times_49 : decode cX3_times 49 = .ok (.iconst 1, 1) := by decide +kernel
theorem dX3_times_50 : decode cX3_times 50 = .ok (.goto 4, 3) := by decide +kernel
theorem dX3_times_53 : decode cX3_times 53 = .ok (.iconst 0, 1) := by decide +kernel
theorem dX3_times_54 : decode cX3_times 54 = .ok (.ior, 1) := by decide +kernel
theorem dX3_times_55 : decode cX3_times 55 = .ok (.putfield 30, 3) := by decide +kernel
theorem dX3_times_58 : decode cX3_times 58 = .ok (.lload 5, 2) := by decide +kernel
theorem dX3_times_60 : decode cX3_times 60 = .ok (.lreturn, 1) := by decide +kernel
def f_X3_times (N : Nat) (x1 : Int64) (x3 : Int64) (M : Mem) : Option (Int64 × Mem) := nm (x1 * x3) (fun v1 => jn (fun (a54 : Int32) => ck (((M.1 33 0) ||| a54) = 0 ∨ ((M.1 33 0) ||| a54) = 1) (nm (setI M 33 0 ((M.1 33 0) ||| a54)) (fun M2 => some (v1, M2)))) (fun (k54 : Int32 → Option (Int64 × Mem)) => if (lg_cmp x3 (-1 : Int64)) = 0 then (if (lg_cmp x1 (-9223372036854775808 : Int64)) = 0 then (k54 (1 : Int32)) else (k54 (0 : Int32))) else (jn (fun (a53 : Unit) => k54 (0 : Int32)) (fun (k53 : Unit → Option (Int64 × Mem)) => if (lg_cmp x3 (0 : Int64)) = 0 then (k53 ()) else (ck (¬ x3 = 0) (if (lg_cmp (v1 / x3) x1) = 0 then (k53 ()) else (k54 (1 : Int32))))))))
set_option maxRecDepth 100000 in
set_option maxHeartbeats 4000000 in
theorem c_X3_times {l : Launch} {D : va_G} {ac : Nat → ClassId} {A : Nat → Prop} {ad : Nat → Nat} {rest : va_W} (N : Nat) (x1 : Int64) (x3 : Int64)  (M : Mem) (r0 : Int64) (M0 : Mem) (hf : f_X3_times N x1 x3 M = some (r0, M0)) : CtJ l D ac A tabX ad rest yX3_times cX3_times 7  1 [.ref (ad 33), .long x1, .long x3] M r0 M0 := by
  refine ct_ofJ (own := RX3) (by decide +kernel) rfl (Nat.le_of_ble_eq_true rfl) ?_
  intro p e s m args below meth c C
  unfold f_X3_times at hf
  refine a_L (L' := [(0, .ref (ad 33)), (1, .long x1), (3, .long x3)]) rfl ?_
  refine a_lload_n (pc := 0) C dX3_times_0 1 rfl ?_
  refine a_lload_n (pc := 1) C dX3_times_1 2 rfl ?_
  refine a_lmul (pc := 2) C dX3_times_2 ?_
  refine a_nml hf (fun v1 hf => ?_)
  refine a_lstore (pc := 3) [(5, .long v1), (0, .ref (ad 33)), (1, .long x1), (3, .long x3)] C dX3_times_3 (by decide) rfl ?_
  refine a_aload_n (pc := 5) C dX3_times_5 1 rfl ?_
  refine a_dup (pc := 6) C dX3_times_6 rfl ?_
  refine a_getI (pc := 7) C dX3_times_7 fl_X3_30 tx_33 rfl ?_
  refine a_lload_n (pc := 10) C dX3_times_10 3 rfl ?_
  refine a_ldc2 (pc := 11) C dX3_times_11 cj_X3_34 ?_
  refine a_lcmp (pc := 14) C dX3_times_14 ?_
  refine a_jn 54 (fun a54 : Int32 => [(5, .long v1)]) (fun a54 : Int32 => [.int a54, .int (M.1 33 0), .ref (ad 33)]) (fun a54 : Int32 => M) hf (fun a54 hf => ?_) (fun k54 hk54 hf => ?_)
  · refine a_ior (pc := 54) C dX3_times_54 ?_
    refine a_putZ (pc := 55) C dX3_times_55 fl_X3_30 tx_33 rfl hf (fun M2 hf => ?_)
    refine a_lload (pc := 58) C dX3_times_58 0 rfl ?_
    exact a_lret (pc := 60) C dX3_times_60 (so_1 hf) (so_2 hf)
  · refine a_if_ne (pc := 15) 34 C dX3_times_15 (by decide) hf (fun hf => ?_) (fun hf => ?_)
    · refine a_lload_n (pc := 34) C dX3_times_34 3 rfl ?_
      refine a_lconst (pc := 35) (v := 0) C dX3_times_35 (by decide) ?_
      refine a_lcmp (pc := 36) C dX3_times_36 ?_
      refine a_jn 53 (fun a53 : Unit => [(5, .long v1)]) (fun a53 : Unit => [.int (M.1 33 0), .ref (ad 33)]) (fun a53 : Unit => M) hf (fun a53 hf => ?_) (fun k53 hk53 hf => ?_)
      · refine a_iconst (pc := 53) (v := 0) C dX3_times_53 (by decide) ?_
        exact a_sub [0] rfl (hk54 (0 : Int32) hf)
      · refine a_if_eq (pc := 37) 53 C dX3_times_37 (by decide) hf (fun hf => ?_) (fun hf => ?_)
        · exact a_sub [0] rfl (hk53 () hf)
        · refine a_lload (pc := 40) C dX3_times_40 0 rfl ?_
          refine a_lload_n (pc := 42) C dX3_times_42 3 rfl ?_
          refine a_ldiv (pc := 43) C dX3_times_43 hf (fun hf => ?_)
          refine a_lload_n (pc := 44) C dX3_times_44 2 rfl ?_
          refine a_lcmp (pc := 45) C dX3_times_45 ?_
          refine a_if_eq (pc := 46) 53 C dX3_times_46 (by decide) hf (fun hf => ?_) (fun hf => ?_)
          · exact a_sub [0] rfl (hk53 () hf)
          · refine a_iconst (pc := 49) (v := 1) C dX3_times_49 (by decide) ?_
            refine a_goto (pc := 50) 54 C dX3_times_50 (by decide) ?_
            exact a_sub [0] rfl (hk54 (1 : Int32) hf)
    · refine a_lload_n (pc := 18) C dX3_times_18 2 rfl ?_
      refine a_ldc2 (pc := 19) C dX3_times_19 cj_X3_36 ?_
      refine a_lcmp (pc := 22) C dX3_times_22 ?_
      refine a_if_ne (pc := 23) 30 C dX3_times_23 (by decide) hf (fun hf => ?_) (fun hf => ?_)
      · refine a_iconst (pc := 30) (v := 0) C dX3_times_30 (by decide) ?_
        refine a_goto (pc := 31) 54 C dX3_times_31 (by decide) ?_
        exact a_sub [0] rfl (hk54 (0 : Int32) hf)
      · refine a_iconst (pc := 26) (v := 1) C dX3_times_26 (by decide) ?_
        refine a_goto (pc := 27) 54 C dX3_times_27 (by decide) ?_
        exact a_sub [0] rfl (hk54 (1 : Int32) hf)
theorem dX4_forget_0 : decode cX4_forget 0 = .ok (.aload_n 0, 1) := by decide +kernel
theorem dX4_forget_1 : decode cX4_forget 1 = .ok (.iconst 0, 1) := by decide +kernel
theorem dX4_forget_2 : decode cX4_forget 2 = .ok (.putfield 30, 3) := by decide +kernel
theorem dX4_forget_5 : decode cX4_forget 5 = .ok (.aload_n 0, 1) := by decide +kernel
theorem dX4_forget_6 : decode cX4_forget 6 = .ok (.iconst 0, 1) := by decide +kernel
theorem dX4_forget_7 : decode cX4_forget 7 = .ok (.putfield 34, 3) := by decide +kernel
theorem dX4_forget_10 : decode cX4_forget 10 = .ok (.return_, 1) := by decide +kernel
def f_X4_forget (N : Nat)  (M : Mem) : Option (Mem) := ck ((0 : Int32) = 0 ∨ (0 : Int32) = 1) (nm (setI M 19 5 (0 : Int32)) (fun M1 => ck ((0 : Int32) = 0 ∨ (0 : Int32) = 1) (nm (setI M1 19 6 (0 : Int32)) (fun M2 => some M2))))
set_option maxRecDepth 100000 in
set_option maxHeartbeats 4000000 in
theorem c_X4_forget {l : Launch} {D : va_G} {ac : Nat → ClassId} {A : Nat → Prop} {ad : Nat → Nat} {rest : va_W} (N : Nat)   (M : Mem)  (M0 : Mem) (hf : f_X4_forget N  M = some M0) : CtV l D ac A tabX ad rest yX4_forget cX4_forget 1  1 [.ref (ad 19)] M  M0 := by
  refine ct_ofV (own := RX4) (by decide +kernel) rfl (Nat.le_of_ble_eq_true rfl) ?_
  intro p e s m args below meth c C
  unfold f_X4_forget at hf
  refine a_L (L' := [(0, .ref (ad 19))]) rfl ?_
  refine a_aload_n (pc := 0) C dX4_forget_0 0 rfl ?_
  refine a_iconst (pc := 1) (v := 0) C dX4_forget_1 (by decide) ?_
  refine a_putZ (pc := 2) C dX4_forget_2 fl_X4_30 tx_19 rfl hf (fun M1 hf => ?_)
  refine a_aload_n (pc := 5) C dX4_forget_5 0 rfl ?_
  refine a_iconst (pc := 6) (v := 0) C dX4_forget_6 (by decide) ?_
  refine a_putZ (pc := 7) C dX4_forget_7 fl_X4_34 tx_19 rfl hf (fun M2 hf => ?_)
  exact a_vret (pc := 10) C dX4_forget_10 (Option.some.inj hf)
theorem dX4_countOpen_0 : decode cX4_countOpen 0 = .ok (.iconst 0, 1) := by decide +kernel
theorem dX4_countOpen_1 : decode cX4_countOpen 1 = .ok (.istore_n 1, 1) := by decide +kernel
theorem dX4_countOpen_2 : decode cX4_countOpen 2 = .ok (.iconst 0, 1) := by decide +kernel
theorem dX4_countOpen_3 : decode cX4_countOpen 3 = .ok (.istore_n 2, 1) := by decide +kernel
theorem dX4_countOpen_4 : decode cX4_countOpen 4 = .ok (.iload_n 2, 1) := by decide +kernel
theorem dX4_countOpen_5 : decode cX4_countOpen 5 = .ok (.aload_n 0, 1) := by decide +kernel
theorem dX4_countOpen_6 : decode cX4_countOpen 6 = .ok (.getfield 46, 3) := by decide +kernel
theorem dX4_countOpen_9 : decode cX4_countOpen 9 = .ok (.if_icmp .ge 22, 3) := by decide +kernel
theorem dX4_countOpen_12 : decode cX4_countOpen 12 = .ok (.aload_n 0, 1) := by decide +kernel
theorem dX4_countOpen_13 : decode cX4_countOpen 13 = .ok (.getfield 27, 3) := by decide +kernel
theorem dX4_countOpen_16 : decode cX4_countOpen 16 = .ok (.iload_n 2, 1) := by decide +kernel
theorem dX4_countOpen_17 : decode cX4_countOpen 17 = .ok (.iaload, 1) := by decide +kernel
theorem dX4_countOpen_18 : decode cX4_countOpen 18 = .ok (.iconst (-1), 1) := by decide +kernel
theorem dX4_countOpen_19 : decode cX4_countOpen 19 = .ok (.if_icmp .eq 6, 3) := by decide +kernel
theorem dX4_countOpen_22 : decode cX4_countOpen 22 = .ok (.iinc 1 1, 3) := by decide +kernel
theorem dX4_countOpen_25 : decode cX4_countOpen 25 = .ok (.iinc 2 1, 3) := by decide +kernel
theorem dX4_countOpen_28 : decode cX4_countOpen 28 = .ok (.goto (-24), 3) := by decide +kernel
theorem dX4_countOpen_31 : decode cX4_countOpen 31 = .ok (.iload_n 1, 1) := by decide +kernel
theorem dX4_countOpen_32 : decode cX4_countOpen 32 = .ok (.ireturn, 1) := by decide +kernel
def f_X4_countOpen (N : Nat)  (M : Mem) : Option (Int32) := lp (fun (k4 : (Int32 × Int32) → Option (Int32)) (a4 : Int32 × Int32) => if (M.1 19 7) ≤ a4.2 then (some a4.1) else (ck (inb a4.2 1024) (jn (fun (a25 : Int32) => nm (a4.2 + (1 : Int32)) (fun v1 => k4 (a25, v1))) (fun (k25 : Int32 → Option (Int32)) => if (M.1 25 a4.2.toNatClampNeg) = (-1 : Int32) then (k25 a4.1) else (nm (a4.1 + (1 : Int32)) (fun v2 => k25 v2)))))) N ((0 : Int32), (0 : Int32))
set_option maxRecDepth 100000 in
set_option maxHeartbeats 4000000 in
theorem c_X4_countOpen {l : Launch} {D : va_G} {ac : Nat → ClassId} {A : Nat → Prop} {ad : Nat → Nat} {rest : va_W} (N : Nat)   (M : Mem) (r0 : Int32) (hf : f_X4_countOpen N  M = some r0) : CtI l D ac A tabX ad rest yX4_countOpen cX4_countOpen 3 .int 1 [.ref (ad 19)] M r0 M := by
  refine ct_ofI (own := RX4) (by decide +kernel) rfl (Nat.le_of_ble_eq_true rfl) ?_
  intro p e s m args below meth c C
  unfold f_X4_countOpen at hf
  refine a_L (L' := [(0, .ref (ad 19))]) rfl ?_
  refine a_iconst (pc := 0) (v := 0) C dX4_countOpen_0 (by decide) ?_
  refine a_istore_n (pc := 1) [(1, .int (0 : Int32)), (0, .ref (ad 19))] C dX4_countOpen_1 (by decide) rfl ?_
  refine a_iconst (pc := 2) (v := 0) C dX4_countOpen_2 (by decide) ?_
  refine a_istore_n (pc := 3) [(2, .int (0 : Int32)), (1, .int (0 : Int32)), (0, .ref (ad 19))] C dX4_countOpen_3 (by decide) rfl ?_
  refine a_sub [2, 1, 0] rfl ?_
  refine a_lp 4 (fun a4 : Int32 × Int32 => [(0, .ref (ad 19)), (1, .int a4.1), (2, .int a4.2)]) (fun a4 : Int32 × Int32 => []) (fun a4 : Int32 × Int32 => M) (fun k4 a4 hk4 hf => ?_) N ((0 : Int32), (0 : Int32)) hf
  refine a_iload_n (pc := 4) C dX4_countOpen_4 2 rfl ?_
  refine a_aload_n (pc := 5) C dX4_countOpen_5 0 rfl ?_
  refine a_getI (pc := 6) C dX4_countOpen_6 fl_X4_46 tx_19 rfl ?_
  refine a_icmp_ge (pc := 9) 31 C dX4_countOpen_9 (by decide) hf (fun hf => ?_) (fun hf => ?_)
  · refine a_iload_n (pc := 31) C dX4_countOpen_31 1 rfl ?_
    exact a_iret (pc := 32) C dX4_countOpen_32 (Option.some.inj hf) rfl
  · refine a_aload_n (pc := 12) C dX4_countOpen_12 0 rfl ?_
    refine a_getR (pc := 13) C dX4_countOpen_13 fl_X4_27 tx_19 rfl ?_
    refine a_iload_n (pc := 16) C dX4_countOpen_16 2 rfl ?_
    refine a_iald (pc := 17) C dX4_countOpen_17 tx_25 hf (fun hf => ?_)
    refine a_iconst (pc := 18) (v := (-1)) C dX4_countOpen_18 (by decide) ?_
    refine a_jn 25 (fun a25 : Int32 => [(0, .ref (ad 19)), (1, .int a25), (2, .int a4.2)]) (fun a25 : Int32 => []) (fun a25 : Int32 => M) hf (fun a25 hf => ?_) (fun k25 hk25 hf => ?_)
    · refine a_iinc (pc := 25) (v := 1) (fun v1 => [(2, .int v1), (0, .ref (ad 19)), (1, .int a25)]) C dX4_countOpen_25 2 rfl (by decide) (by decide) (fun _ => rfl) hf (fun v1 hf => ?_)
      refine a_goto (pc := 28) 4 C dX4_countOpen_28 (by decide) ?_
      exact a_sub [1, 2, 0] rfl (hk4 (a25, v1) hf)
    · refine a_icmp_eq (pc := 19) 25 C dX4_countOpen_19 (by decide) hf (fun hf => ?_) (fun hf => ?_)
      · exact a_sub [0, 1, 2] rfl (hk25 a4.1 hf)
      · refine a_iinc (pc := 22) (v := 1) (fun v2 => [(1, .int v2), (0, .ref (ad 19)), (2, .int a4.2)]) C dX4_countOpen_22 1 rfl (by decide) (by decide) (fun _ => rfl) hf (fun v2 hf => ?_)
        exact a_sub [1, 0, 2] rfl (hk25 v2 hf)
theorem dX4_leastTight_0 : decode cX4_leastTight 0 = .ok (.iconst 0, 1) := by decide +kernel
theorem dX4_leastTight_1 : decode cX4_leastTight 1 = .ok (.istore_n 3, 1) := by decide +kernel
theorem dX4_leastTight_2 : decode cX4_leastTight 2 = .ok (.iload_n 3, 1) := by decide +kernel
theorem dX4_leastTight_3 : decode cX4_leastTight 3 = .ok (.aload_n 0, 1) := by decide +kernel
theorem dX4_leastTight_4 : decode cX4_leastTight 4 = .ok (.getfield 37, 3) := by decide +kernel
theorem dX4_leastTight_7 : decode cX4_leastTight 7 = .ok (.if_icmp .ge 115, 3) := by decide +kernel
theorem dX4_leastTight_10 : decode cX4_leastTight 10 = .ok (.aload_n 0, 1) := by decide +kernel
theorem dX4_leastTight_11 : decode cX4_leastTight 11 = .ok (.getfield 24, 3) := by decide +kernel
theorem dX4_leastTight_14 : decode cX4_leastTight 14 = .ok (.iload_n 3, 1) := by decide +kernel
theorem dX4_leastTight_15 : decode cX4_leastTight 15 = .ok (.iaload, 1) := by decide +kernel
theorem dX4_leastTight_16 : decode cX4_leastTight 16 = .ok (.istore 4, 2) := by decide +kernel
theorem dX4_leastTight_18 : decode cX4_leastTight 18 = .ok (.aload_n 0, 1) := by decide +kernel
theorem dX4_leastTight_19 : decode cX4_leastTight 19 = .ok (.getfield 11, 3) := by decide +kernel
theorem dX4_leastTight_22 : decode cX4_leastTight 22 = .ok (.iload_n 3, 1) := by decide +kernel
theorem dX4_leastTight_23 : decode cX4_leastTight 23 = .ok (.iaload, 1) := by decide +kernel
theorem dX4_leastTight_24 : decode cX4_leastTight 24 = .ok (.iload 4, 2) := by decide +kernel
theorem dX4_leastTight_26 : decode cX4_leastTight 26 = .ok (.iconst (-1), 1) := by decide +kernel
theorem dX4_leastTight_27 : decode cX4_leastTight 27 = .ok (.ixor, 1) := by decide +kernel
theorem dX4_leastTight_28 : decode cX4_leastTight 28 = .ok (.iand, 1) := by decide +kernel
theorem dX4_leastTight_29 : decode cX4_leastTight 29 = .ok (.istore 5, 2) := by decide +kernel
theorem dX4_leastTight_31 : decode cX4_leastTight 31 = .ok (.iload 4, 2) := by decide +kernel
theorem dX4_leastTight_33 : decode cX4_leastTight 33 = .ok (.iload_n 1, 1) := by decide +kernel
theorem dX4_leastTight_34 : decode cX4_leastTight 34 = .ok (.iconst (-1), 1) := by decide +kernel
theorem dX4_leastTight_35 : decode cX4_leastTight 35 = .ok (.ixor, 1) := by decide +kernel
theorem dX4_leastTight_36 : decode cX4_leastTight 36 = .ok (.iand, 1) := by decide +kernel
theorem dX4_leastTight_37 : decode cX4_leastTight 37 = .ok (.ifCond .ne 16, 3) := by decide +kernel
theorem dX4_leastTight_40 : decode cX4_leastTight 40 = .ok (.iload 5, 2) := by decide +kernel
theorem dX4_leastTight_42 : decode cX4_leastTight 42 = .ok (.iload_n 2, 1) := by decide +kernel
theorem dX4_leastTight_43 : decode cX4_leastTight 43 = .ok (.iconst (-1), 1) := by decide +kernel
theorem dX4_leastTight_44 : decode cX4_leastTight 44 = .ok (.ixor, 1) := by decide +kernel
theorem dX4_leastTight_45 : decode cX4_leastTight 45 = .ok (.iand, 1) := by decide +kernel
theorem dX4_leastTight_46 : decode cX4_leastTight 46 = .ok (.ifCond .ne 7, 3) := by decide +kernel
theorem dX4_leastTight_49 : decode cX4_leastTight 49 = .ok (.iconst 1, 1) := by decide +kernel
theorem dX4_leastTight_50 : decode cX4_leastTight 50 = .ok (.goto 4, 3) := by decide +kernel
theorem dX4_leastTight_53 : decode cX4_leastTight 53 = .ok (.iconst 0, 1) := by decide +kernel
theorem dX4_leastTight_54 : decode cX4_leastTight 54 = .ok (.istore 6, 2) := by decide +kernel
theorem dX4_leastTight_56 : decode cX4_leastTight 56 = .ok (.iload 4, 2) := by decide +kernel
theorem dX4_leastTight_58 : decode cX4_leastTight 58 = .ok (.iload_n 2, 1) := by decide +kernel
theorem dX4_leastTight_59 : decode cX4_leastTight 59 = .ok (.iconst (-1), 1) := by decide +kernel
theorem dX4_leastTight_60 : decode cX4_leastTight 60 = .ok (.ixor, 1) := by decide +kernel
theorem dX4_leastTight_61 : decode cX4_leastTight 61 = .ok (.iand, 1) := by decide +kernel
theorem dX4_leastTight_62 : decode cX4_leastTight 62 = .ok (.ifCond .ne 16, 3) := by decide +kernel
theorem dX4_leastTight_65 : decode cX4_leastTight 65 = .ok (.iload 5, 2) := by decide +kernel
theorem dX4_leastTight_67 : decode cX4_leastTight 67 = .ok (.iload_n 1, 1) := by decide +kernel
theorem dX4_leastTight_68 : decode cX4_leastTight 68 = .ok (.iconst (-1), 1) := by decide +kernel
theorem dX4_leastTight_69 : decode cX4_leastTight 69 = .ok (.ixor, 1) := by decide +kernel
theorem dX4_leastTight_70 : decode cX4_leastTight 70 = .ok (.iand, 1) := by decide +kernel
theorem dX4_leastTight_71 : decode cX4_leastTight 71 = .ok (.ifCond .ne 7, 3) := by decide +kernel
theorem dX4_leastTight_74 : decode cX4_leastTight 74 = .ok (.iconst 1, 1) := by decide +kernel
theorem dX4_leastTight_75 : decode cX4_leastTight 75 = .ok (.goto 4, 3) := by decide +kernel
theorem dX4_leastTight_78 : decode cX4_leastTight 78 = .ok (.iconst 0, 1) := by decide +kernel
theorem dX4_leastTight_79 : decode cX4_leastTight 79 = .ok (.istore 7, 2) := by decide +kernel
theorem dX4_leastTight_81 : decode cX4_leastTight 81 = .ok (.aload_n 0, 1) := by decide +kernel
theorem dX4_leastTight_82 : decode cX4_leastTight 82 = .ok (.getfield 21, 3) := by decide +kernel
theorem dX4_leastTight_85 : decode cX4_leastTight 85 = .ok (.iload_n 3, 1) := by decide +kernel
theorem dX4_leastTight_86 : decode cX4_leastTight 86 = .ok (.iaload, 1) := by decide +kernel
theorem dX4_leastTight_87 : decode cX4_leastTight 87 = .ok (.iconst 1, 1) := by decide +kernel
theorem dX4_leastTight_88 : decode cX4_leastTight 88 = .ok (.if_icmp .ne 16, 3) := by decide +kernel
theorem dX4_leastTight_91 : decode cX4_leastTight 91 = .ok (.iload 6, 2) := by decide +kernel
theorem dX4_leastTight_93 : decode cX4_leastTight 93 = .ok (.ifCond .eq 23, 3) := by decide +kernel
theorem dX4_leastTight_96 : decode cX4_leastTight 96 = .ok (.iload 7, 2) := by decide +kernel
theorem dX4_leastTight_98 : decode cX4_leastTight 98 = .ok (.ifCond .eq 18, 3) := by decide +kernel
theorem dX4_leastTight_101 : decode cX4_leastTight 101 = .ok (.goto 13, 3) := by decide +kernel
theorem dX4_leastTight_104 : decode cX4_leastTight 104 = .ok (.iload 6, 2) := by decide +kernel
theorem dX4_leastTight_106 : decode cX4_leastTight 106 = .ok (.ifCond .ne 8, 3) := by decide +kernel
theorem dX4_leastTight_109 : decode cX4_leastTight 109 = .ok (.iload 7, 2) := by decide +kernel
theorem dX4_leastTight_111 : decode cX4_leastTight 111 = .ok (.ifCond .eq 5, 3) := by decide +kernel
theorem dX4_leastTight_114 : decode cX4_leastTight 114 = .ok (.iload_n 3, 1) := by decide +kernel
theorem dX4_leastTight_115 : decode cX4_leastTight 115 = .ok (.ireturn, 1) := by decide +kernel
theorem dX4_leastTight_116 : decode cX4_leastTight 116 = .ok (.iinc 3 1, 3) := by decide +kernel
theorem dX4_leastTight_119 : decode cX4_leastTight 119 = .ok (.goto (-117), 3) := by decide +kernel
theorem dX4_leastTight_122 : decode cX4_leastTight 122 = .ok (.iconst (-1), 1) := by decide +kernel
theorem dX4_leastTight_123 : decode cX4_leastTight 123 = .ok (.ireturn, 1) := by decide +kernel
def f_X4_leastTight (N : Nat) (x1 : Int32) (x2 : Int32) (M : Mem) : Option (Int32) := lp (fun (k2 : Int32 → Option (Int32)) (a2 : Int32) => if (M.1 19 0) ≤ a2 then (some (-1 : Int32)) else (ck (inb a2 64) (nm (M.1 24 a2.toNatClampNeg) (fun v1 => ck (inb a2 64) (nm ((M.1 20 a2.toNatClampNeg) &&& (v1 ^^^ (-1 : Int32))) (fun v2 => jn (fun (a54 : Int32) => jn (fun (a79 : Int32) => ck (inb a2 64) (jn (fun (a116 : Unit) => nm (a2 + (1 : Int32)) (fun v3 => k2 v3)) (fun (k116 : Unit → Option (Int32)) => if (M.1 23 a2.toNatClampNeg) = (1 : Int32) then (if a54 = 0 then (k116 ()) else (if a79 = 0 then (k116 ()) else (some a2))) else (if a54 = 0 then (if a79 = 0 then (k116 ()) else (some a2)) else (some a2))))) (fun (k79 : Int32 → Option (Int32)) => jn (fun (a78 : Unit) => k79 (0 : Int32)) (fun (k78 : Unit → Option (Int32)) => if (v1 &&& (x2 ^^^ (-1 : Int32))) = 0 then (if (v2 &&& (x1 ^^^ (-1 : Int32))) = 0 then (k79 (1 : Int32)) else (k78 ())) else (k78 ())))) (fun (k54 : Int32 → Option (Int32)) => jn (fun (a53 : Unit) => k54 (0 : Int32)) (fun (k53 : Unit → Option (Int32)) => if (v1 &&& (x1 ^^^ (-1 : Int32))) = 0 then (if (v2 &&& (x2 ^^^ (-1 : Int32))) = 0 then (k54 (1 : Int32)) else (k53 ())) else (k53 ()))))))))) N (0 : Int32)
set_option maxRecDepth 100000 in
set_option maxHeartbeats 4000000 in
theorem c_X4_leastTight {l : Launch} {D : va_G} {ac : Nat → ClassId} {A : Nat → Prop} {ad : Nat → Nat} {rest : va_W} (N : Nat) (x1 : Int32) (x2 : Int32)  (M : Mem) (r0 : Int32) (hf : f_X4_leastTight N x1 x2 M = some r0) : CtI l D ac A tabX ad rest yX4_leastTight cX4_leastTight 8 .int 1 [.ref (ad 19), .int x1, .int x2] M r0 M := by
  refine ct_ofI (own := RX4) (by decide +kernel) rfl (Nat.le_of_ble_eq_true rfl) ?_
  intro p e s m args below meth c C
  unfold f_X4_leastTight at hf
  refine a_L (L' := [(0, .ref (ad 19)), (1, .int x1), (2, .int x2)]) rfl ?_
  refine a_iconst (pc := 0) (v := 0) C dX4_leastTight_0 (by decide) ?_
  refine a_istore_n (pc := 1) [(3, .int (0 : Int32)), (0, .ref (ad 19)), (1, .int x1), (2, .int x2)] C dX4_leastTight_1 (by decide) rfl ?_
  refine a_sub [1, 2, 3, 0] rfl ?_
  refine a_lp 2 (fun a2 : Int32 => [(0, .ref (ad 19)), (1, .int x1), (2, .int x2), (3, .int a2)]) (fun a2 : Int32 => []) (fun a2 : Int32 => M) (fun k2 a2 hk2 hf => ?_) N (0 : Int32) hf
  refine a_iload_n (pc := 2) C dX4_leastTight_2 3 rfl ?_
  refine a_aload_n (pc := 3) C dX4_leastTight_3 0 rfl ?_
  refine a_getI (pc := 4) C dX4_leastTight_4 fl_X4_37 tx_19 rfl ?_
  refine a_icmp_ge (pc := 7) 122 C dX4_leastTight_7 (by decide) hf (fun hf => ?_) (fun hf => ?_)
  · refine a_iconst (pc := 122) (v := (-1)) C dX4_leastTight_122 (by decide) ?_
    exact a_iret (pc := 123) C dX4_leastTight_123 (Option.some.inj hf) rfl
  · refine a_aload_n (pc := 10) C dX4_leastTight_10 0 rfl ?_
    refine a_getR (pc := 11) C dX4_leastTight_11 fl_X4_24 tx_19 rfl ?_
    refine a_iload_n (pc := 14) C dX4_leastTight_14 3 rfl ?_
    refine a_iald (pc := 15) C dX4_leastTight_15 tx_24 hf (fun hf => ?_)
    refine a_nmi hf (fun v1 hf => ?_)
    refine a_istore (pc := 16) [(4, .int v1), (0, .ref (ad 19)), (1, .int x1), (2, .int x2), (3, .int a2)] C dX4_leastTight_16 (by decide) rfl ?_
    refine a_aload_n (pc := 18) C dX4_leastTight_18 1 rfl ?_
    refine a_getR (pc := 19) C dX4_leastTight_19 fl_X4_11 tx_19 rfl ?_
    refine a_iload_n (pc := 22) C dX4_leastTight_22 4 rfl ?_
    refine a_iald (pc := 23) C dX4_leastTight_23 tx_20 hf (fun hf => ?_)
    refine a_iload (pc := 24) C dX4_leastTight_24 0 rfl ?_
    refine a_iconst (pc := 26) (v := (-1)) C dX4_leastTight_26 (by decide) ?_
    refine a_ixor (pc := 27) C dX4_leastTight_27 ?_
    refine a_iand (pc := 28) C dX4_leastTight_28 ?_
    refine a_nmi hf (fun v2 hf => ?_)
    refine a_istore (pc := 29) [(5, .int v2), (4, .int v1), (0, .ref (ad 19)), (1, .int x1), (2, .int x2), (3, .int a2)] C dX4_leastTight_29 (by decide) rfl ?_
    refine a_iload (pc := 31) C dX4_leastTight_31 1 rfl ?_
    refine a_iload_n (pc := 33) C dX4_leastTight_33 3 rfl ?_
    refine a_iconst (pc := 34) (v := (-1)) C dX4_leastTight_34 (by decide) ?_
    refine a_ixor (pc := 35) C dX4_leastTight_35 ?_
    refine a_iand (pc := 36) C dX4_leastTight_36 ?_
    refine a_jn 54 (fun a54 : Int32 => [(0, .ref (ad 19)), (1, .int x1), (2, .int x2), (3, .int a2), (4, .int v1), (5, .int v2)]) (fun a54 : Int32 => [.int a54]) (fun a54 : Int32 => M) hf (fun a54 hf => ?_) (fun k54 hk54 hf => ?_)
    · refine a_istore (pc := 54) [(6, .int a54), (0, .ref (ad 19)), (1, .int x1), (2, .int x2), (3, .int a2), (4, .int v1), (5, .int v2)] C dX4_leastTight_54 (by decide) rfl ?_
      refine a_iload (pc := 56) C dX4_leastTight_56 5 rfl ?_
      refine a_iload_n (pc := 58) C dX4_leastTight_58 3 rfl ?_
      refine a_iconst (pc := 59) (v := (-1)) C dX4_leastTight_59 (by decide) ?_
      refine a_ixor (pc := 60) C dX4_leastTight_60 ?_
      refine a_iand (pc := 61) C dX4_leastTight_61 ?_
      refine a_jn 79 (fun a79 : Int32 => [(0, .ref (ad 19)), (1, .int x1), (2, .int x2), (3, .int a2), (6, .int a54)]) (fun a79 : Int32 => [.int a79]) (fun a79 : Int32 => M) hf (fun a79 hf => ?_) (fun k79 hk79 hf => ?_)
      · refine a_istore (pc := 79) [(7, .int a79), (0, .ref (ad 19)), (1, .int x1), (2, .int x2), (3, .int a2), (6, .int a54)] C dX4_leastTight_79 (by decide) rfl ?_
        refine a_aload_n (pc := 81) C dX4_leastTight_81 1 rfl ?_
        refine a_getR (pc := 82) C dX4_leastTight_82 fl_X4_21 tx_19 rfl ?_
        refine a_iload_n (pc := 85) C dX4_leastTight_85 4 rfl ?_
        refine a_iald (pc := 86) C dX4_leastTight_86 tx_23 hf (fun hf => ?_)
        refine a_iconst (pc := 87) (v := 1) C dX4_leastTight_87 (by decide) ?_
        refine a_jn 116 (fun a116 : Unit => [(0, .ref (ad 19)), (1, .int x1), (2, .int x2), (3, .int a2)]) (fun a116 : Unit => []) (fun a116 : Unit => M) hf (fun a116 hf => ?_) (fun k116 hk116 hf => ?_)
        · refine a_iinc (pc := 116) (v := 1) (fun v3 => [(3, .int v3), (0, .ref (ad 19)), (1, .int x1), (2, .int x2)]) C dX4_leastTight_116 3 rfl (by decide) (by decide) (fun _ => rfl) hf (fun v3 hf => ?_)
          refine a_goto (pc := 119) 2 C dX4_leastTight_119 (by decide) ?_
          exact a_sub [1, 2, 3, 0] rfl (hk2 v3 hf)
        · refine a_icmp_ne (pc := 88) 104 C dX4_leastTight_88 (by decide) hf (fun hf => ?_) (fun hf => ?_)
          · refine a_iload (pc := 104) C dX4_leastTight_104 5 rfl ?_
            refine a_if_ne (pc := 106) 114 C dX4_leastTight_106 (by decide) hf (fun hf => ?_) (fun hf => ?_)
            · refine a_iload_n (pc := 114) C dX4_leastTight_114 4 rfl ?_
              exact a_iret (pc := 115) C dX4_leastTight_115 (Option.some.inj hf) rfl
            · refine a_iload (pc := 109) C dX4_leastTight_109 0 rfl ?_
              refine a_if_eq (pc := 111) 116 C dX4_leastTight_111 (by decide) hf (fun hf => ?_) (fun hf => ?_)
              · exact a_sub [1, 2, 3, 4] rfl (hk116 () hf)
              · refine a_iload_n (pc := 114) C dX4_leastTight_114 4 rfl ?_
                exact a_iret (pc := 115) C dX4_leastTight_115 (Option.some.inj hf) rfl
          · refine a_iload (pc := 91) C dX4_leastTight_91 5 rfl ?_
            refine a_if_eq (pc := 93) 116 C dX4_leastTight_93 (by decide) hf (fun hf => ?_) (fun hf => ?_)
            · exact a_sub [1, 2, 3, 4] rfl (hk116 () hf)
            · refine a_iload (pc := 96) C dX4_leastTight_96 0 rfl ?_
              refine a_if_eq (pc := 98) 116 C dX4_leastTight_98 (by decide) hf (fun hf => ?_) (fun hf => ?_)
              · exact a_sub [1, 2, 3, 4] rfl (hk116 () hf)
              · refine a_goto (pc := 101) 114 C dX4_leastTight_101 (by decide) ?_
                refine a_iload_n (pc := 114) C dX4_leastTight_114 4 rfl ?_
                exact a_iret (pc := 115) C dX4_leastTight_115 (Option.some.inj hf) rfl
      · refine a_jn 78 (fun a78 : Unit => [(0, .ref (ad 19)), (1, .int x1), (2, .int x2), (3, .int a2), (6, .int a54)]) (fun a78 : Unit => []) (fun a78 : Unit => M) hf (fun a78 hf => ?_) (fun k78 hk78 hf => ?_)
        · refine a_iconst (pc := 78) (v := 0) C dX4_leastTight_78 (by decide) ?_
          exact a_sub [0, 1, 2, 3, 4] rfl (hk79 (0 : Int32) hf)
        · refine a_if_ne (pc := 62) 78 C dX4_leastTight_62 (by decide) hf (fun hf => ?_) (fun hf => ?_)
          · exact a_sub [1, 2, 3, 4, 0] rfl (hk78 () hf)
          · refine a_iload (pc := 65) C dX4_leastTight_65 6 rfl ?_
            refine a_iload_n (pc := 67) C dX4_leastTight_67 2 rfl ?_
            refine a_iconst (pc := 68) (v := (-1)) C dX4_leastTight_68 (by decide) ?_
            refine a_ixor (pc := 69) C dX4_leastTight_69 ?_
            refine a_iand (pc := 70) C dX4_leastTight_70 ?_
            refine a_if_ne (pc := 71) 78 C dX4_leastTight_71 (by decide) hf (fun hf => ?_) (fun hf => ?_)
            · exact a_sub [1, 2, 3, 4, 0] rfl (hk78 () hf)
            · refine a_iconst (pc := 74) (v := 1) C dX4_leastTight_74 (by decide) ?_
              refine a_goto (pc := 75) 79 C dX4_leastTight_75 (by decide) ?_
              exact a_sub [1, 2, 3, 4, 0] rfl (hk79 (1 : Int32) hf)
    · refine a_jn 53 (fun a53 : Unit => [(0, .ref (ad 19)), (1, .int x1), (2, .int x2), (3, .int a2), (4, .int v1), (5, .int v2)]) (fun a53 : Unit => []) (fun a53 : Unit => M) hf (fun a53 hf => ?_) (fun k53 hk53 hf => ?_)
      · refine a_iconst (pc := 53) (v := 0) C dX4_leastTight_53 (by decide) ?_
        exact a_sub [0, 1, 2, 3, 4, 5] rfl (hk54 (0 : Int32) hf)
      · refine a_if_ne (pc := 37) 53 C dX4_leastTight_37 (by decide) hf (fun hf => ?_) (fun hf => ?_)
        · exact a_sub [2, 3, 4, 5, 1, 0] rfl (hk53 () hf)
        · refine a_iload (pc := 40) C dX4_leastTight_40 0 rfl ?_
          refine a_iload_n (pc := 42) C dX4_leastTight_42 4 rfl ?_
          refine a_iconst (pc := 43) (v := (-1)) C dX4_leastTight_43 (by decide) ?_
          refine a_ixor (pc := 44) C dX4_leastTight_44 ?_
          refine a_iand (pc := 45) C dX4_leastTight_45 ?_
          refine a_if_ne (pc := 46) 53 C dX4_leastTight_46 (by decide) hf (fun hf => ?_) (fun hf => ?_)
          · exact a_sub [2, 3, 4, 5, 1, 0] rfl (hk53 () hf)
          · refine a_iconst (pc := 49) (v := 1) C dX4_leastTight_49 (by decide) ?_
            refine a_goto (pc := 50) 54 C dX4_leastTight_50 (by decide) ?_
            exact a_sub [2, 3, 4, 5, 1, 0] rfl (hk54 (1 : Int32) hf)
theorem dX5_isMissing_0 : decode cX5_isMissing 0 = .ok (.aload_n 0, 1) := by decide +kernel
theorem dX5_isMissing_1 : decode cX5_isMissing 1 = .ok (.getfield 9, 3) := by decide +kernel
theorem dX5_isMissing_4 : decode cX5_isMissing 4 = .ok (.iconst (-1), 1) := by decide +kernel
theorem dX5_isMissing_5 : decode cX5_isMissing 5 = .ok (.if_icmp .ne 7, 3) := by decide +kernel
theorem dX5_isMissing_8 : decode cX5_isMissing 8 = .ok (.iconst 1, 1) := by decide +kernel
theorem dX5_isMissing_9 : decode cX5_isMissing 9 = .ok (.goto 4, 3) := by decide +kernel
theorem dX5_isMissing_12 : decode cX5_isMissing 12 = .ok (.iconst 0, 1) := by decide +kernel
theorem dX5_isMissing_13 : decode cX5_isMissing 13 = .ok (.ireturn, 1) := by decide +kernel
def f_X5_isMissing (N : Nat) (c0 : Nat) (M : Mem) : Option (Int32) := if (M.1 c0 0) = (-1 : Int32) then (some (1 : Int32)) else (some (0 : Int32))
set_option maxRecDepth 100000 in
set_option maxHeartbeats 4000000 in
theorem c_X5_isMissing {l : Launch} {D : va_G} {ac : Nat → ClassId} {A : Nat → Prop} {ad : Nat → Nat} {rest : va_W} (N : Nat) (c0 : Nat) (hc0 : SheetAt tabX c0) (M : Mem) (r0 : Int32) (hf : f_X5_isMissing N c0 M = some r0) : CtI l D ac A tabX ad rest yX5_isMissing cX5_isMissing 1 .boolean 1 [.ref (ad c0)] M r0 M := by
  refine ct_ofI (own := RX5) (by decide +kernel) rfl (Nat.le_of_ble_eq_true rfl) ?_
  intro p e s m args below meth c C
  unfold f_X5_isMissing at hf
  refine a_L (L' := [(0, .ref (ad c0))]) rfl ?_
  refine a_aload_n (pc := 0) C dX5_isMissing_0 0 rfl ?_
  refine a_getI (pc := 1) C dX5_isMissing_1 fl_X5_9 hc0.1 rfl ?_
  refine a_iconst (pc := 4) (v := (-1)) C dX5_isMissing_4 (by decide) ?_
  refine a_icmp_ne (pc := 5) 12 C dX5_isMissing_5 (by decide) hf (fun hf => ?_) (fun hf => ?_)
  · refine a_iconst (pc := 12) (v := 0) C dX5_isMissing_12 (by decide) ?_
    exact a_zret (pc := 13) C dX5_isMissing_13 (Or.inl rfl) (Option.some.inj hf) rfl
  · refine a_iconst (pc := 8) (v := 1) C dX5_isMissing_8 (by decide) ?_
    refine a_goto (pc := 9) 13 C dX5_isMissing_9 (by decide) ?_
    exact a_zret (pc := 13) C dX5_isMissing_13 (Or.inr rfl) (Option.some.inj hf) rfl
theorem dX5_hasNumber_0 : decode cX5_hasNumber 0 = .ok (.iload_n 1, 1) := by decide +kernel
theorem dX5_hasNumber_1 : decode cX5_hasNumber 1 = .ok (.ifCond .lt 15, 3) := by decide +kernel
theorem dX5_hasNumber_4 : decode cX5_hasNumber 4 = .ok (.iload_n 1, 1) := by decide +kernel
theorem dX5_hasNumber_5 : decode cX5_hasNumber 5 = .ok (.aload_n 0, 1) := by decide +kernel
theorem dX5_hasNumber_6 : decode cX5_hasNumber 6 = .ok (.getfield 19, 3) := by decide +kernel
theorem dX5_hasNumber_9 : decode cX5_hasNumber 9 = .ok (.if_icmp .ge 7, 3) := by decide +kernel
theorem dX5_hasNumber_12 : decode cX5_hasNumber 12 = .ok (.iconst 1, 1) := by decide +kernel
theorem dX5_hasNumber_13 : decode cX5_hasNumber 13 = .ok (.goto 4, 3) := by decide +kernel
theorem dX5_hasNumber_16 : decode cX5_hasNumber 16 = .ok (.iconst 0, 1) := by decide +kernel
theorem dX5_hasNumber_17 : decode cX5_hasNumber 17 = .ok (.ireturn, 1) := by decide +kernel
def f_X5_hasNumber (N : Nat) (c0 : Nat) (x1 : Int32) (M : Mem) : Option (Int32) := jn (fun (a16 : Unit) => some (0 : Int32)) (fun (k16 : Unit → Option (Int32)) => if x1 < 0 then (k16 ()) else (if (M.1 c0 1) ≤ x1 then (k16 ()) else (some (1 : Int32))))
set_option maxRecDepth 100000 in
set_option maxHeartbeats 4000000 in
theorem c_X5_hasNumber {l : Launch} {D : va_G} {ac : Nat → ClassId} {A : Nat → Prop} {ad : Nat → Nat} {rest : va_W} (N : Nat) (c0 : Nat) (x1 : Int32) (hc0 : SheetAt tabX c0) (M : Mem) (r0 : Int32) (hf : f_X5_hasNumber N c0 x1 M = some r0) : CtI l D ac A tabX ad rest yX5_hasNumber cX5_hasNumber 2 .boolean 1 [.ref (ad c0), .int x1] M r0 M := by
  refine ct_ofI (own := RX5) (by decide +kernel) rfl (Nat.le_of_ble_eq_true rfl) ?_
  intro p e s m args below meth c C
  unfold f_X5_hasNumber at hf
  refine a_L (L' := [(0, .ref (ad c0)), (1, .int x1)]) rfl ?_
  refine a_iload_n (pc := 0) C dX5_hasNumber_0 1 rfl ?_
  refine a_jn 16 (fun a16 : Unit => []) (fun a16 : Unit => []) (fun a16 : Unit => M) hf (fun a16 hf => ?_) (fun k16 hk16 hf => ?_)
  · refine a_iconst (pc := 16) (v := 0) C dX5_hasNumber_16 (by decide) ?_
    exact a_zret (pc := 17) C dX5_hasNumber_17 (Or.inl rfl) (Option.some.inj hf) rfl
  · refine a_if_lt (pc := 1) 16 C dX5_hasNumber_1 (by decide) hf (fun hf => ?_) (fun hf => ?_)
    · exact a_sub [] rfl (hk16 () hf)
    · refine a_iload_n (pc := 4) C dX5_hasNumber_4 1 rfl ?_
      refine a_aload_n (pc := 5) C dX5_hasNumber_5 0 rfl ?_
      refine a_getI (pc := 6) C dX5_hasNumber_6 fl_X5_19 hc0.1 rfl ?_
      refine a_icmp_ge (pc := 9) 16 C dX5_hasNumber_9 (by decide) hf (fun hf => ?_) (fun hf => ?_)
      · exact a_sub [] rfl (hk16 () hf)
      · refine a_iconst (pc := 12) (v := 1) C dX5_hasNumber_12 (by decide) ?_
        refine a_goto (pc := 13) 17 C dX5_hasNumber_13 (by decide) ?_
        exact a_zret (pc := 17) C dX5_hasNumber_17 (Or.inr rfl) (Option.some.inj hf) rfl
theorem dX5_hasStretch_0 : decode cX5_hasStretch 0 = .ok (.iload_n 1, 1) := by decide +kernel
theorem dX5_hasStretch_1 : decode cX5_hasStretch 1 = .ok (.ifCond .lt 21, 3) := by decide +kernel
theorem dX5_hasStretch_4 : decode cX5_hasStretch 4 = .ok (.iload_n 2, 1) := by decide +kernel
theorem dX5_hasStretch_5 : decode cX5_hasStretch 5 = .ok (.ifCond .lt 17, 3) := by decide +kernel
theorem dX5_hasStretch_8 : decode cX5_hasStretch 8 = .ok (.iload_n 1, 1) := by decide +kernel
theorem dX5_hasStretch_9 : decode cX5_hasStretch 9 = .ok (.aload_n 0, 1) := by decide +kernel
theorem dX5_hasStretch_10 : decode cX5_hasStretch 10 = .ok (.getfield 19, 3) := by decide +kernel
theorem dX5_hasStretch_13 : decode cX5_hasStretch 13 = .ok (.iload_n 2, 1) := by decide +kernel
theorem dX5_hasStretch_14 : decode cX5_hasStretch 14 = .ok (.isub, 1) := by decide +kernel
theorem dX5_hasStretch_15 : decode cX5_hasStretch 15 = .ok (.if_icmp .gt 7, 3) := by decide +kernel
theorem dX5_hasStretch_18 : decode cX5_hasStretch 18 = .ok (.iconst 1, 1) := by decide +kernel
theorem dX5_hasStretch_19 : decode cX5_hasStretch 19 = .ok (.goto 4, 3) := by decide +kernel
theorem dX5_hasStretch_22 : decode cX5_hasStretch 22 = .ok (.iconst 0, 1) := by decide +kernel
theorem dX5_hasStretch_23 : decode cX5_hasStretch 23 = .ok (.ireturn, 1) := by decide +kernel
def f_X5_hasStretch (N : Nat) (c0 : Nat) (x1 : Int32) (x2 : Int32) (M : Mem) : Option (Int32) := jn (fun (a22 : Unit) => some (0 : Int32)) (fun (k22 : Unit → Option (Int32)) => if x1 < 0 then (k22 ()) else (if x2 < 0 then (k22 ()) else (if ((M.1 c0 1) - x2) < x1 then (k22 ()) else (some (1 : Int32)))))
set_option maxRecDepth 100000 in
set_option maxHeartbeats 4000000 in
theorem c_X5_hasStretch {l : Launch} {D : va_G} {ac : Nat → ClassId} {A : Nat → Prop} {ad : Nat → Nat} {rest : va_W} (N : Nat) (c0 : Nat) (x1 : Int32) (x2 : Int32) (hc0 : SheetAt tabX c0) (M : Mem) (r0 : Int32) (hf : f_X5_hasStretch N c0 x1 x2 M = some r0) : CtI l D ac A tabX ad rest yX5_hasStretch cX5_hasStretch 3 .boolean 1 [.ref (ad c0), .int x1, .int x2] M r0 M := by
  refine ct_ofI (own := RX5) (by decide +kernel) rfl (Nat.le_of_ble_eq_true rfl) ?_
  intro p e s m args below meth c C
  unfold f_X5_hasStretch at hf
  refine a_L (L' := [(0, .ref (ad c0)), (1, .int x1), (2, .int x2)]) rfl ?_
  refine a_iload_n (pc := 0) C dX5_hasStretch_0 1 rfl ?_
  refine a_jn 22 (fun a22 : Unit => []) (fun a22 : Unit => []) (fun a22 : Unit => M) hf (fun a22 hf => ?_) (fun k22 hk22 hf => ?_)
  · refine a_iconst (pc := 22) (v := 0) C dX5_hasStretch_22 (by decide) ?_
    exact a_zret (pc := 23) C dX5_hasStretch_23 (Or.inl rfl) (Option.some.inj hf) rfl
  · refine a_if_lt (pc := 1) 22 C dX5_hasStretch_1 (by decide) hf (fun hf => ?_) (fun hf => ?_)
    · exact a_sub [] rfl (hk22 () hf)
    · refine a_iload_n (pc := 4) C dX5_hasStretch_4 2 rfl ?_
      refine a_if_lt (pc := 5) 22 C dX5_hasStretch_5 (by decide) hf (fun hf => ?_) (fun hf => ?_)
      · exact a_sub [] rfl (hk22 () hf)
      · refine a_iload_n (pc := 8) C dX5_hasStretch_8 1 rfl ?_
        refine a_aload_n (pc := 9) C dX5_hasStretch_9 0 rfl ?_
        refine a_getI (pc := 10) C dX5_hasStretch_10 fl_X5_19 hc0.1 rfl ?_
        refine a_iload_n (pc := 13) C dX5_hasStretch_13 2 rfl ?_
        refine a_isub (pc := 14) C dX5_hasStretch_14 ?_
        refine a_icmp_gt (pc := 15) 22 C dX5_hasStretch_15 (by decide) hf (fun hf => ?_) (fun hf => ?_)
        · exact a_sub [] rfl (hk22 () hf)
        · refine a_iconst (pc := 18) (v := 1) C dX5_hasStretch_18 (by decide) ?_
          refine a_goto (pc := 19) 23 C dX5_hasStretch_19 (by decide) ?_
          exact a_zret (pc := 23) C dX5_hasStretch_23 (Or.inr rfl) (Option.some.inj hf) rfl
theorem dX6_append_0 : decode cX6_append 0 = .ok (.aload_n 0, 1) := by decide +kernel
theorem dX6_append_1 : decode cX6_append 1 = .ok (.getfield 15, 3) := by decide +kernel
theorem dX6_append_4 : decode cX6_append 4 = .ok (.bipush 120, 2) := by decide +kernel
theorem dX6_append_6 : decode cX6_append 6 = .ok (.if_icmp .ge 23, 3) := by decide +kernel
theorem dX6_append_9 : decode cX6_append 9 = .ok (.aload_n 0, 1) := by decide +kernel
theorem dX6_append_10 : decode cX6_append 10 = .ok (.getfield 9, 3) := by decide +kernel
theorem dX6_append_13 : decode cX6_append 13 = .ok (.aload_n 0, 1) := by decide +kernel
theorem dX6_append_14 : decode cX6_append 14 = .ok (.getfield 15, 3) := by decide +kernel
theorem dX6_append_17 : decode cX6_append 17 = .ok (.iload_n 1, 1) := by decide +kernel
theorem dX6_append_18 : decode cX6_append 18 = .ok (.iastore, 1) := by decide +kernel
theorem dX6_append_19 : decode cX6_append 19 = .ok (.aload_n 0, 1) := by decide +kernel
theorem dX6_append_20 : decode cX6_append 20 = .ok (.dup, 1) := by decide +kernel
theorem dX6_append_21 : decode cX6_append 21 = .ok (.getfield 15, 3) := by decide +kernel
theorem dX6_append_24 : decode cX6_append 24 = .ok (.iconst 1, 1) := by decide +kernel
theorem dX6_append_25 : decode cX6_append 25 = .ok (.iadd, 1) := by decide +kernel
theorem dX6_append_26 : decode cX6_append 26 = .ok (.putfield 15, 3) := by decide +kernel
theorem dX6_append_29 : decode cX6_append 29 = .ok (.return_, 1) := by decide +kernel
def f_X6_append (N : Nat) (x1 : Int32) (M : Mem) : Option (Mem) := if (120 : Int32) ≤ (M.1 31 0) then (some M) else (ck (inb (M.1 31 0) 120) (nm (setI M 32 (M.1 31 0).toNatClampNeg x1) (fun M1 => nm (setI M1 31 0 ((M1.1 31 0) + (1 : Int32))) (fun M2 => some M2))))
set_option maxRecDepth 100000 in
set_option maxHeartbeats 4000000 in
theorem c_X6_append {l : Launch} {D : va_G} {ac : Nat → ClassId} {A : Nat → Prop} {ad : Nat → Nat} {rest : va_W} (N : Nat) (x1 : Int32)  (M : Mem)  (M0 : Mem) (hf : f_X6_append N x1 M = some M0) : CtV l D ac A tabX ad rest yX6_append cX6_append 2  1 [.ref (ad 31), .int x1] M  M0 := by
  refine ct_ofV (own := RX6) (by decide +kernel) rfl (Nat.le_of_ble_eq_true rfl) ?_
  intro p e s m args below meth c C
  unfold f_X6_append at hf
  refine a_L (L' := [(0, .ref (ad 31)), (1, .int x1)]) rfl ?_
  refine a_aload_n (pc := 0) C dX6_append_0 0 rfl ?_
  refine a_getI (pc := 1) C dX6_append_1 fl_X6_15 tx_31 rfl ?_
  refine a_bipush (pc := 4) (v := 120) C dX6_append_4 (by decide) ?_
  refine a_icmp_ge (pc := 6) 29 C dX6_append_6 (by decide) hf (fun hf => ?_) (fun hf => ?_)
  · exact a_vret (pc := 29) C dX6_append_29 (Option.some.inj hf)
  · refine a_aload_n (pc := 9) C dX6_append_9 0 rfl ?_
    refine a_getR (pc := 10) C dX6_append_10 fl_X6_9 tx_31 rfl ?_
    refine a_aload_n (pc := 13) C dX6_append_13 0 rfl ?_
    refine a_getI (pc := 14) C dX6_append_14 fl_X6_15 tx_31 rfl ?_
    refine a_iload_n (pc := 17) C dX6_append_17 1 rfl ?_
    refine a_iast (pc := 18) C dX6_append_18 tx_32 hf (fun M1 hf => ?_)
    refine a_aload_n (pc := 19) C dX6_append_19 0 rfl ?_
    refine a_dup (pc := 20) C dX6_append_20 rfl ?_
    refine a_getI (pc := 21) C dX6_append_21 fl_X6_15 tx_31 rfl ?_
    refine a_iconst (pc := 24) (v := 1) C dX6_append_24 (by decide) ?_
    refine a_iadd (pc := 25) C dX6_append_25 ?_
    refine a_putI (pc := 26) C dX6_append_26 fl_X6_15 tx_31 rfl hf (fun M2 hf => ?_)
    exact a_vret (pc := 29) C dX6_append_29 (Option.some.inj hf)
theorem dX6_passOver_0 : decode cX6_passOver 0 = .ok (.iload_n 1, 1) := by decide +kernel
theorem dX6_passOver_1 : decode cX6_passOver 1 = .ok (.istore 4, 2) := by decide +kernel
theorem dX6_passOver_3 : decode cX6_passOver 3 = .ok (.iload 4, 2) := by decide +kernel
theorem dX6_passOver_5 : decode cX6_passOver 5 = .ok (.aload_n 0, 1) := by decide +kernel
theorem dX6_passOver_6 : decode cX6_passOver 6 = .ok (.getfield 15, 3) := by decide +kernel
theorem dX6_passOver_9 : decode cX6_passOver 9 = .ok (.if_icmp .ge 31, 3) := by decide +kernel
theorem dX6_passOver_12 : decode cX6_passOver 12 = .ok (.aload_n 0, 1) := by decide +kernel
theorem dX6_passOver_13 : decode cX6_passOver 13 = .ok (.getfield 9, 3) := by decide +kernel
theorem dX6_passOver_16 : decode cX6_passOver 16 = .ok (.iload 4, 2) := by decide +kernel
theorem dX6_passOver_18 : decode cX6_passOver 18 = .ok (.iaload, 1) := by decide +kernel
theorem dX6_passOver_19 : decode cX6_passOver 19 = .ok (.iload_n 2, 1) := by decide +kernel
theorem dX6_passOver_20 : decode cX6_passOver 20 = .ok (.if_icmp .lt 20, 3) := by decide +kernel
theorem dX6_passOver_23 : decode cX6_passOver 23 = .ok (.aload_n 0, 1) := by decide +kernel
theorem dX6_passOver_24 : decode cX6_passOver 24 = .ok (.getfield 9, 3) := by decide +kernel
theorem dX6_passOver_27 : decode cX6_passOver 27 = .ok (.iload 4, 2) := by decide +kernel
theorem dX6_passOver_29 : decode cX6_passOver 29 = .ok (.iaload, 1) := by decide +kernel
theorem dX6_passOver_30 : decode cX6_passOver 30 = .ok (.iload_n 3, 1) := by decide +kernel
theorem dX6_passOver_31 : decode cX6_passOver 31 = .ok (.if_icmp .gt 9, 3) := by decide +kernel
theorem dX6_passOver_34 : decode cX6_passOver 34 = .ok (.iinc 4 1, 3) := by decide +kernel
theorem dX6_passOver_37 : decode cX6_passOver 37 = .ok (.goto (-34), 3) := by decide +kernel
theorem dX6_passOver_40 : decode cX6_passOver 40 = .ok (.iload 4, 2) := by decide +kernel
theorem dX6_passOver_42 : decode cX6_passOver 42 = .ok (.ireturn, 1) := by decide +kernel
def f_X6_passOver (N : Nat) (x1 : Int32) (x2 : Int32) (x3 : Int32) (M : Mem) : Option (Int32) := lp (fun (k3 : Int32 → Option (Int32)) (a3 : Int32) => if (M.1 31 0) ≤ a3 then (some a3) else (ck (inb a3 120) (if (M.1 32 a3.toNatClampNeg) < x2 then (some a3) else (ck (inb a3 120) (if x3 < (M.1 32 a3.toNatClampNeg) then (some a3) else (nm (a3 + (1 : Int32)) (fun v1 => k3 v1))))))) N x1
set_option maxRecDepth 100000 in
set_option maxHeartbeats 4000000 in
theorem c_X6_passOver {l : Launch} {D : va_G} {ac : Nat → ClassId} {A : Nat → Prop} {ad : Nat → Nat} {rest : va_W} (N : Nat) (x1 : Int32) (x2 : Int32) (x3 : Int32)  (M : Mem) (r0 : Int32) (hf : f_X6_passOver N x1 x2 x3 M = some r0) : CtI l D ac A tabX ad rest yX6_passOver cX6_passOver 5 .int 1 [.ref (ad 31), .int x1, .int x2, .int x3] M r0 M := by
  refine ct_ofI (own := RX6) (by decide +kernel) rfl (Nat.le_of_ble_eq_true rfl) ?_
  intro p e s m args below meth c C
  unfold f_X6_passOver at hf
  refine a_L (L' := [(0, .ref (ad 31)), (1, .int x1), (2, .int x2), (3, .int x3)]) rfl ?_
  refine a_iload_n (pc := 0) C dX6_passOver_0 1 rfl ?_
  refine a_istore (pc := 1) [(4, .int x1), (0, .ref (ad 31)), (1, .int x1), (2, .int x2), (3, .int x3)] C dX6_passOver_1 (by decide) rfl ?_
  refine a_sub [1, 3, 4, 0] rfl ?_
  refine a_lp 3 (fun a3 : Int32 => [(0, .ref (ad 31)), (2, .int x2), (3, .int x3), (4, .int a3)]) (fun a3 : Int32 => []) (fun a3 : Int32 => M) (fun k3 a3 hk3 hf => ?_) N x1 hf
  refine a_iload (pc := 3) C dX6_passOver_3 3 rfl ?_
  refine a_aload_n (pc := 5) C dX6_passOver_5 0 rfl ?_
  refine a_getI (pc := 6) C dX6_passOver_6 fl_X6_15 tx_31 rfl ?_
  refine a_icmp_ge (pc := 9) 40 C dX6_passOver_9 (by decide) hf (fun hf => ?_) (fun hf => ?_)
  · refine a_iload (pc := 40) C dX6_passOver_40 3 rfl ?_
    exact a_iret (pc := 42) C dX6_passOver_42 (Option.some.inj hf) rfl
  · refine a_aload_n (pc := 12) C dX6_passOver_12 0 rfl ?_
    refine a_getR (pc := 13) C dX6_passOver_13 fl_X6_9 tx_31 rfl ?_
    refine a_iload (pc := 16) C dX6_passOver_16 3 rfl ?_
    refine a_iald (pc := 18) C dX6_passOver_18 tx_32 hf (fun hf => ?_)
    refine a_iload_n (pc := 19) C dX6_passOver_19 1 rfl ?_
    refine a_icmp_lt (pc := 20) 40 C dX6_passOver_20 (by decide) hf (fun hf => ?_) (fun hf => ?_)
    · refine a_iload (pc := 40) C dX6_passOver_40 3 rfl ?_
      exact a_iret (pc := 42) C dX6_passOver_42 (Option.some.inj hf) rfl
    · refine a_aload_n (pc := 23) C dX6_passOver_23 0 rfl ?_
      refine a_getR (pc := 24) C dX6_passOver_24 fl_X6_9 tx_31 rfl ?_
      refine a_iload (pc := 27) C dX6_passOver_27 3 rfl ?_
      refine a_iald (pc := 29) C dX6_passOver_29 tx_32 hf (fun hf => ?_)
      refine a_iload_n (pc := 30) C dX6_passOver_30 2 rfl ?_
      refine a_icmp_gt (pc := 31) 40 C dX6_passOver_31 (by decide) hf (fun hf => ?_) (fun hf => ?_)
      · refine a_iload (pc := 40) C dX6_passOver_40 3 rfl ?_
        exact a_iret (pc := 42) C dX6_passOver_42 (Option.some.inj hf) rfl
      · refine a_iinc (pc := 34) (v := 1) (fun v1 => [(4, .int v1), (0, .ref (ad 31)), (2, .int x2), (3, .int x3)]) C dX6_passOver_34 3 rfl (by decide) (by decide) (fun _ => rfl) hf (fun v1 hf => ?_)
        refine a_goto (pc := 37) 3 C dX6_passOver_37 (by decide) ?_
        exact a_sub [1, 2, 3, 0] rfl (hk3 v1 hf)
theorem dX6_valueOf_0 : decode cX6_valueOf 0 = .ok (.iconst 0, 1) := by decide +kernel
theorem dX6_valueOf_1 : decode cX6_valueOf 1 = .ok (.istore_n 3, 1) := by decide +kernel
theorem dX6_valueOf_2 : decode cX6_valueOf 2 = .ok (.iload_n 1, 1) := by decide +kernel
theorem dX6_valueOf_3 : decode cX6_valueOf 3 = .ok (.istore 4, 2) := by decide +kernel
theorem dX6_valueOf_5 : decode cX6_valueOf 5 = .ok (.iload 4, 2) := by decide +kernel
theorem dX6_valueOf_7 : decode cX6_valueOf 7 = .ok (.iload_n 2, 1) := by decide +kernel
theorem dX6_valueOf_8 : decode cX6_valueOf 8 = .ok (.if_icmp .ge 32, 3) := by decide +kernel
theorem dX6_valueOf_11 : decode cX6_valueOf 11 = .ok (.iload_n 3, 1) := by decide +kernel
theorem dX6_valueOf_12 : decode cX6_valueOf 12 = .ok (.sipush 999, 3) := by decide +kernel
theorem dX6_valueOf_15 : decode cX6_valueOf 15 = .ok (.if_icmp .gt 19, 3) := by decide +kernel
theorem dX6_valueOf_18 : decode cX6_valueOf 18 = .ok (.iload_n 3, 1) := by decide +kernel
theorem dX6_valueOf_19 : decode cX6_valueOf 19 = .ok (.bipush 10, 2) := by decide +kernel
theorem dX6_valueOf_21 : decode cX6_valueOf 21 = .ok (.imul, 1) := by decide +kernel
theorem dX6_valueOf_22 : decode cX6_valueOf 22 = .ok (.aload_n 0, 1) := by decide +kernel
theorem dX6_valueOf_23 : decode cX6_valueOf 23 = .ok (.getfield 9, 3) := by decide +kernel
theorem dX6_valueOf_26 : decode cX6_valueOf 26 = .ok (.iload 4, 2) := by decide +kernel
theorem dX6_valueOf_28 : decode cX6_valueOf 28 = .ok (.iaload, 1) := by decide +kernel
theorem dX6_valueOf_29 : decode cX6_valueOf 29 = .ok (.iadd, 1) := by decide +kernel
theorem dX6_valueOf_30 : decode cX6_valueOf 30 = .ok (.bipush 48, 2) := by decide +kernel
theorem dX6_valueOf_32 : decode cX6_valueOf 32 = .ok (.isub, 1) := by decide +kernel
theorem dX6_valueOf_33 : decode cX6_valueOf 33 = .ok (.istore_n 3, 1) := by decide +kernel
theorem dX6_valueOf_34 : decode cX6_valueOf 34 = .ok (.iinc 4 1, 3) := by decide +kernel
theorem dX6_valueOf_37 : decode cX6_valueOf 37 = .ok (.goto (-32), 3) := by decide +kernel
theorem dX6_valueOf_40 : decode cX6_valueOf 40 = .ok (.iload_n 3, 1) := by decide +kernel
theorem dX6_valueOf_41 : decode cX6_valueOf 41 = .ok (.ireturn, 1) := by decide +kernel
def f_X6_valueOf (N : Nat) (x1 : Int32) (x2 : Int32) (M : Mem) : Option (Int32) := lp (fun (k5 : (Int32 × Int32) → Option (Int32)) (a5 : Int32 × Int32) => if x2 ≤ a5.2 then (some a5.1) else (jn (fun (a34 : Int32) => nm (a5.2 + (1 : Int32)) (fun v1 => k5 (a34, v1))) (fun (k34 : Int32 → Option (Int32)) => if (999 : Int32) < a5.1 then (k34 a5.1) else (ck (inb a5.2 120) (nm (((a5.1 * (10 : Int32)) + (M.1 32 a5.2.toNatClampNeg)) - (48 : Int32)) (fun v2 => k34 v2)))))) N ((0 : Int32), x1)
set_option maxRecDepth 100000 in
set_option maxHeartbeats 4000000 in
theorem c_X6_valueOf {l : Launch} {D : va_G} {ac : Nat → ClassId} {A : Nat → Prop} {ad : Nat → Nat} {rest : va_W} (N : Nat) (x1 : Int32) (x2 : Int32)  (M : Mem) (r0 : Int32) (hf : f_X6_valueOf N x1 x2 M = some r0) : CtI l D ac A tabX ad rest yX6_valueOf cX6_valueOf 5 .int 1 [.ref (ad 31), .int x1, .int x2] M r0 M := by
  refine ct_ofI (own := RX6) (by decide +kernel) rfl (Nat.le_of_ble_eq_true rfl) ?_
  intro p e s m args below meth c C
  unfold f_X6_valueOf at hf
  refine a_L (L' := [(0, .ref (ad 31)), (1, .int x1), (2, .int x2)]) rfl ?_
  refine a_iconst (pc := 0) (v := 0) C dX6_valueOf_0 (by decide) ?_
  refine a_istore_n (pc := 1) [(3, .int (0 : Int32)), (0, .ref (ad 31)), (1, .int x1), (2, .int x2)] C dX6_valueOf_1 (by decide) rfl ?_
  refine a_iload_n (pc := 2) C dX6_valueOf_2 2 rfl ?_
  refine a_istore (pc := 3) [(4, .int x1), (3, .int (0 : Int32)), (0, .ref (ad 31)), (1, .int x1), (2, .int x2)] C dX6_valueOf_3 (by decide) rfl ?_
  refine a_sub [2, 4, 1, 0] rfl ?_
  refine a_lp 5 (fun a5 : Int32 × Int32 => [(0, .ref (ad 31)), (2, .int x2), (3, .int a5.1), (4, .int a5.2)]) (fun a5 : Int32 × Int32 => []) (fun a5 : Int32 × Int32 => M) (fun k5 a5 hk5 hf => ?_) N ((0 : Int32), x1) hf
  refine a_iload (pc := 5) C dX6_valueOf_5 3 rfl ?_
  refine a_iload_n (pc := 7) C dX6_valueOf_7 1 rfl ?_
  refine a_icmp_ge (pc := 8) 40 C dX6_valueOf_8 (by decide) hf (fun hf => ?_) (fun hf => ?_)
  · refine a_iload_n (pc := 40) C dX6_valueOf_40 2 rfl ?_
    exact a_iret (pc := 41) C dX6_valueOf_41 (Option.some.inj hf) rfl
  · refine a_iload_n (pc := 11) C dX6_valueOf_11 2 rfl ?_
    refine a_sipush (pc := 12) (v := 999) C dX6_valueOf_12 (by decide) ?_
    refine a_jn 34 (fun a34 : Int32 => [(0, .ref (ad 31)), (2, .int x2), (3, .int a34), (4, .int a5.2)]) (fun a34 : Int32 => []) (fun a34 : Int32 => M) hf (fun a34 hf => ?_) (fun k34 hk34 hf => ?_)
    · refine a_iinc (pc := 34) (v := 1) (fun v1 => [(4, .int v1), (0, .ref (ad 31)), (2, .int x2), (3, .int a34)]) C dX6_valueOf_34 3 rfl (by decide) (by decide) (fun _ => rfl) hf (fun v1 hf => ?_)
      refine a_goto (pc := 37) 5 C dX6_valueOf_37 (by decide) ?_
      exact a_sub [1, 2, 3, 0] rfl (hk5 (a34, v1) hf)
    · refine a_icmp_gt (pc := 15) 34 C dX6_valueOf_15 (by decide) hf (fun hf => ?_) (fun hf => ?_)
      · exact a_sub [0, 1, 2, 3] rfl (hk34 a5.1 hf)
      · refine a_iload_n (pc := 18) C dX6_valueOf_18 2 rfl ?_
        refine a_bipush (pc := 19) (v := 10) C dX6_valueOf_19 (by decide) ?_
        refine a_imul (pc := 21) C dX6_valueOf_21 ?_
        refine a_aload_n (pc := 22) C dX6_valueOf_22 0 rfl ?_
        refine a_getR (pc := 23) C dX6_valueOf_23 fl_X6_9 tx_31 rfl ?_
        refine a_iload (pc := 26) C dX6_valueOf_26 3 rfl ?_
        refine a_iald (pc := 28) C dX6_valueOf_28 tx_32 hf (fun hf => ?_)
        refine a_iadd (pc := 29) C dX6_valueOf_29 ?_
        refine a_bipush (pc := 30) (v := 48) C dX6_valueOf_30 (by decide) ?_
        refine a_isub (pc := 32) C dX6_valueOf_32 ?_
        refine a_nmi hf (fun v2 hf => ?_)
        refine a_istore_n (pc := 33) [(3, .int v2), (0, .ref (ad 31)), (2, .int x2), (4, .int a5.2)] C dX6_valueOf_33 (by decide) rfl ?_
        exact a_sub [1, 2, 0, 3] rfl (hk34 v2 hf)
theorem dX7_wipe_0 : decode cX7_wipe 0 = .ok (.aload_n 0, 1) := by decide +kernel
theorem dX7_wipe_1 : decode cX7_wipe 1 = .ok (.getfield 39, 3) := by decide +kernel
theorem dX7_wipe_4 : decode cX7_wipe 4 = .ok (.getfield 138, 3) := by decide +kernel
theorem dX7_wipe_7 : decode cX7_wipe 7 = .ok (.istore_n 1, 1) := by decide +kernel
theorem dX7_wipe_8 : decode cX7_wipe 8 = .ok (.aload_n 0, 1) := by decide +kernel
theorem dX7_wipe_9 : decode cX7_wipe 9 = .ok (.getfield 39, 3) := by decide +kernel
theorem dX7_wipe_12 : decode cX7_wipe 12 = .ok (.iconst 0, 1) := by decide +kernel
theorem dX7_wipe_13 : decode cX7_wipe 13 = .ok (.putfield 138, 3) := by decide +kernel
theorem dX7_wipe_16 : decode cX7_wipe 16 = .ok (.iload_n 1, 1) := by decide +kernel
theorem dX7_wipe_17 : decode cX7_wipe 17 = .ok (.ireturn, 1) := by decide +kernel
def f_X7_wipe (N : Nat)  (M : Mem) : Option (Int32 × Mem) := nm (M.1 31 0) (fun v1 => nm (setI M 31 0 (0 : Int32)) (fun M2 => some (v1, M2)))
set_option maxRecDepth 100000 in
set_option maxHeartbeats 4000000 in
theorem c_X7_wipe {l : Launch} {D : va_G} {ac : Nat → ClassId} {A : Nat → Prop} {ad : Nat → Nat} {rest : va_W} (N : Nat)   (M : Mem) (r0 : Int32) (M0 : Mem) (hf : f_X7_wipe N  M = some (r0, M0)) : CtI l D ac A tabX ad rest yX7_wipe cX7_wipe 2 .int 1 [.ref (ad 0)] M r0 M0 := by
  refine ct_ofI (own := RX7) (by decide +kernel) rfl (Nat.le_of_ble_eq_true rfl) ?_
  intro p e s m args below meth c C
  unfold f_X7_wipe at hf
  refine a_L (L' := [(0, .ref (ad 0))]) rfl ?_
  refine a_aload_n (pc := 0) C dX7_wipe_0 0 rfl ?_
  refine a_getR (pc := 1) C dX7_wipe_1 fl_X7_39 tx_0 rfl ?_
  refine a_getI (pc := 4) C dX7_wipe_4 fl_X7_138 tx_31 rfl ?_
  refine a_nmi hf (fun v1 hf => ?_)
  refine a_istore_n (pc := 7) [(1, .int v1), (0, .ref (ad 0))] C dX7_wipe_7 (by decide) rfl ?_
  refine a_aload_n (pc := 8) C dX7_wipe_8 1 rfl ?_
  refine a_getR (pc := 9) C dX7_wipe_9 fl_X7_39 tx_0 rfl ?_
  refine a_iconst (pc := 12) (v := 0) C dX7_wipe_12 (by decide) ?_
  refine a_putI (pc := 13) C dX7_wipe_13 fl_X7_138 tx_31 rfl hf (fun M2 hf => ?_)
  refine a_iload_n (pc := 16) C dX7_wipe_16 0 rfl ?_
  exact a_iret (pc := 17) C dX7_wipe_17 (so_1 hf) (so_2 hf)
theorem dX7_seed_0 : decode cX7_seed 0 = .ok (.aload_n 0, 1) := by decide +kernel
theorem dX7_seed_1 : decode cX7_seed 1 = .ok (.getfield 12, 3) := by decide +kernel
theorem dX7_seed_4 : decode cX7_seed 4 = .ok (.getfield 135, 3) := by decide +kernel
theorem dX7_seed_7 : decode cX7_seed 7 = .ok (.istore_n 2, 1) := by decide +kernel
theorem dX7_seed_8 : decode cX7_seed 8 = .ok (.aload_n 0, 1) := by decide +kernel
theorem dX7_seed_9 : decode cX7_seed 9 = .ok (.getfield 12, 3) := by decide +kernel
theorem dX7_seed_12 : decode cX7_seed 12 = .ok (.iload_n 1, 1) := by decide +kernel
theorem dX7_seed_13 : decode cX7_seed 13 = .ok (.putfield 135, 3) := by decide +kernel
theorem dX7_seed_16 : decode cX7_seed 16 = .ok (.iload_n 2, 1) := by decide +kernel
theorem dX7_seed_17 : decode cX7_seed 17 = .ok (.ireturn, 1) := by decide +kernel
def f_X7_seed (N : Nat) (x1 : Int32) (M : Mem) : Option (Int32 × Mem) := nm (M.1 1 2) (fun v1 => nm (setI M 1 2 x1) (fun M2 => some (v1, M2)))
set_option maxRecDepth 100000 in
set_option maxHeartbeats 4000000 in
theorem c_X7_seed {l : Launch} {D : va_G} {ac : Nat → ClassId} {A : Nat → Prop} {ad : Nat → Nat} {rest : va_W} (N : Nat) (x1 : Int32)  (M : Mem) (r0 : Int32) (M0 : Mem) (hf : f_X7_seed N x1 M = some (r0, M0)) : CtI l D ac A tabX ad rest yX7_seed cX7_seed 3 .int 1 [.ref (ad 0), .int x1] M r0 M0 := by
  refine ct_ofI (own := RX7) (by decide +kernel) rfl (Nat.le_of_ble_eq_true rfl) ?_
  intro p e s m args below meth c C
  unfold f_X7_seed at hf
  refine a_L (L' := [(0, .ref (ad 0)), (1, .int x1)]) rfl ?_
  refine a_aload_n (pc := 0) C dX7_seed_0 0 rfl ?_
  refine a_getR (pc := 1) C dX7_seed_1 fl_X7_12 tx_0 rfl ?_
  refine a_getI (pc := 4) C dX7_seed_4 fl_X7_135 net_1.1 rfl ?_
  refine a_nmi hf (fun v1 hf => ?_)
  refine a_istore_n (pc := 7) [(2, .int v1), (0, .ref (ad 0)), (1, .int x1)] C dX7_seed_7 (by decide) rfl ?_
  refine a_aload_n (pc := 8) C dX7_seed_8 1 rfl ?_
  refine a_getR (pc := 9) C dX7_seed_9 fl_X7_12 tx_0 rfl ?_
  refine a_iload_n (pc := 12) C dX7_seed_12 2 rfl ?_
  refine a_putI (pc := 13) C dX7_seed_13 fl_X7_135 net_1.1 rfl hf (fun M2 hf => ?_)
  refine a_iload_n (pc := 16) C dX7_seed_16 0 rfl ?_
  exact a_iret (pc := 17) C dX7_seed_17 (so_1 hf) (so_2 hf)
theorem dX7_within_0 : decode cX7_within 0 = .ok (.iload_n 0, 1) := by decide +kernel
theorem dX7_within_1 : decode cX7_within 1 = .ok (.iload_n 1, 1) := by decide +kernel
theorem dX7_within_2 : decode cX7_within 2 = .ok (.if_icmp .lt 12, 3) := by decide +kernel
theorem dX7_within_5 : decode cX7_within 5 = .ok (.iload_n 0, 1) := by decide +kernel
theorem dX7_within_6 : decode cX7_within 6 = .ok (.iload_n 2, 1) := by decide +kernel
theorem dX7_within_7 : decode cX7_within 7 = .ok (.if_icmp .gt 7, 3) := by decide +kernel
theorem dX7_within_10 : decode cX7_within 10 = .ok (.iconst 1, 1) := by decide +kernel
theorem dX7_within_11 : decode cX7_within 11 = .ok (.goto 4, 3) := by decide +kernel
theorem dX7_within_14 : decode cX7_within 14 = .ok (.iconst 0, 1) := by decide +kernel
theorem dX7_within_15 : decode cX7_within 15 = .ok (.ireturn, 1) := by decide +kernel
def f_X7_within (N : Nat) (x0 : Int32) (x1 : Int32) (x2 : Int32) (M : Mem) : Option (Int32) := jn (fun (a14 : Unit) => some (0 : Int32)) (fun (k14 : Unit → Option (Int32)) => if x0 < x1 then (k14 ()) else (if x2 < x0 then (k14 ()) else (some (1 : Int32))))
set_option maxRecDepth 100000 in
set_option maxHeartbeats 4000000 in
theorem c_X7_within {l : Launch} {D : va_G} {ac : Nat → ClassId} {A : Nat → Prop} {ad : Nat → Nat} {rest : va_W} (N : Nat) (x0 : Int32) (x1 : Int32) (x2 : Int32)  (M : Mem) (r0 : Int32) (hf : f_X7_within N x0 x1 x2 M = some r0) : CtI l D ac A tabX ad rest yX7_within cX7_within 3 .boolean 1 [.int x0, .int x1, .int x2] M r0 M := by
  refine ct_ofI (own := RX7) (by decide +kernel) rfl (Nat.le_of_ble_eq_true rfl) ?_
  intro p e s m args below meth c C
  unfold f_X7_within at hf
  refine a_L (L' := [(0, .int x0), (1, .int x1), (2, .int x2)]) rfl ?_
  refine a_iload_n (pc := 0) C dX7_within_0 0 rfl ?_
  refine a_iload_n (pc := 1) C dX7_within_1 1 rfl ?_
  refine a_jn 14 (fun a14 : Unit => []) (fun a14 : Unit => []) (fun a14 : Unit => M) hf (fun a14 hf => ?_) (fun k14 hk14 hf => ?_)
  · refine a_iconst (pc := 14) (v := 0) C dX7_within_14 (by decide) ?_
    exact a_zret (pc := 15) C dX7_within_15 (Or.inl rfl) (Option.some.inj hf) rfl
  · refine a_icmp_lt (pc := 2) 14 C dX7_within_2 (by decide) hf (fun hf => ?_) (fun hf => ?_)
    · exact a_sub [] rfl (hk14 () hf)
    · refine a_iload_n (pc := 5) C dX7_within_5 0 rfl ?_
      refine a_iload_n (pc := 6) C dX7_within_6 2 rfl ?_
      refine a_icmp_gt (pc := 7) 14 C dX7_within_7 (by decide) hf (fun hf => ?_) (fun hf => ?_)
      · exact a_sub [] rfl (hk14 () hf)
      · refine a_iconst (pc := 10) (v := 1) C dX7_within_10 (by decide) ?_
        refine a_goto (pc := 11) 15 C dX7_within_11 (by decide) ?_
        exact a_zret (pc := 15) C dX7_within_15 (Or.inr rfl) (Option.some.inj hf) rfl
theorem dX7_commonPart_0 : decode cX7_commonPart 0 = .ok (.lload_n 0, 1) := by decide +kernel
theorem dX7_commonPart_1 : decode cX7_commonPart 1 = .ok (.lstore 4, 2) := by decide +kernel
theorem dX7_commonPart_3 : decode cX7_commonPart 3 = .ok (.lload_n 2, 1) := by decide +kernel
theorem dX7_commonPart_4 : decode cX7_commonPart 4 = .ok (.lstore 6, 2) := by decide +kernel
theorem dX7_commonPart_6 : decode cX7_commonPart 6 = .ok (.iconst 0, 1) := by decide +kernel
theorem dX7_commonPart_7 : decode cX7_commonPart 7 = .ok (.istore 8, 2) := by decide +kernel
theorem dX7_commonPart_9 : decode cX7_commonPart 9 = .ok (.lload 6, 2) := by decide +kernel
theorem dX7_commonPart_11 : decode cX7_commonPart 11 = .ok (.lconst 0, 1) := by decide +kernel
theorem dX7_commonPart_12 : decode cX7_commonPart 12 = .ok (.lcmp, 1) := by decide +kernel
theorem dX7_commonPart_13 : decode cX7_commonPart 13 = .ok (.ifCond .eq 32, 3) := by decide +kernel
theorem dX7_commonPart_16 : decode cX7_commonPart 16 = .ok (.iload 8, 2) := by decide +kernel
theorem dX7_commonPart_18 : decode cX7_commonPart 18 = .ok (.sipush 200, 3) := by decide +kernel
theorem dX7_commonPart_21 : decode cX7_commonPart 21 = .ok (.if_icmp .ge 24, 3) := by decide +kernel
theorem dX7_commonPart_24 : decode cX7_commonPart 24 = .ok (.lload 4, 2) := by decide +kernel
theorem dX7_commonPart_26 : decode cX7_commonPart 26 = .ok (.lload 6, 2) := by decide +kernel
theorem dX7_commonPart_28 : decode cX7_commonPart 28 = .ok (.lrem, 1) := by decide +kernel
theorem dX7_commonPart_29 : decode cX7_commonPart 29 = .ok (.lstore 9, 2) := by decide +kernel
theorem dX7_commonPart_31 : decode cX7_commonPart 31 = .ok (.lload 6, 2) := by decide +kernel
theorem dX7_commonPart_33 : decode cX7_commonPart 33 = .ok (.lstore 4, 2) := by decide +kernel
theorem dX7_commonPart_35 : decode cX7_commonPart 35 = .ok (.lload 9, 2) := by decide +kernel
theorem dX7_commonPart_37 : decode cX7_commonPart 37 = .ok (.lstore 6, 2) := by decide +kernel
theorem dX7_commonPart_39 : decode cX7_commonPart 39 = .ok (.iinc 8 1, 3) := by decide +kernel
theorem dX7_commonPart_42 : decode cX7_commonPart 42 = .ok (.goto (-33), 3) := by decide +kernel
theorem dX7_commonPart_45 : decode cX7_commonPart 45 = .ok (.lload 4, 2) := by decide +kernel
theorem dX7_commonPart_47 : decode cX7_commonPart 47 = .ok (.lreturn, 1) := by decide +kernel
def f_X7_commonPart (N : Nat) (x0 : Int64) (x2 : Int64) (M : Mem) : Option (Int64) := lp (fun (k9 : (Int64 × Int64 × Int32) → Option (Int64)) (a9 : Int64 × Int64 × Int32) => if (lg_cmp a9.2.1 (0 : Int64)) = 0 then (some a9.1) else (if (200 : Int32) ≤ a9.2.2 then (some a9.1) else (ck (¬ a9.2.1 = 0) (nm (a9.1 - a9.1 / a9.2.1 * a9.2.1) (fun v1 => nm (a9.2.2 + (1 : Int32)) (fun v2 => k9 (a9.2.1, v1, v2))))))) N (x0, x2, (0 : Int32))
set_option maxRecDepth 100000 in
set_option maxHeartbeats 4000000 in
theorem c_X7_commonPart {l : Launch} {D : va_G} {ac : Nat → ClassId} {A : Nat → Prop} {ad : Nat → Nat} {rest : va_W} (N : Nat) (x0 : Int64) (x2 : Int64)  (M : Mem) (r0 : Int64) (hf : f_X7_commonPart N x0 x2 M = some r0) : CtJ l D ac A tabX ad rest yX7_commonPart cX7_commonPart 11  1 [.long x0, .long x2] M r0 M := by
  refine ct_ofJ (own := RX7) (by decide +kernel) rfl (Nat.le_of_ble_eq_true rfl) ?_
  intro p e s m args below meth c C
  unfold f_X7_commonPart at hf
  refine a_L (L' := [(0, .long x0), (2, .long x2)]) rfl ?_
  refine a_lload_n (pc := 0) C dX7_commonPart_0 0 rfl ?_
  refine a_lstore (pc := 1) [(4, .long x0), (0, .long x0), (2, .long x2)] C dX7_commonPart_1 (by decide) rfl ?_
  refine a_lload_n (pc := 3) C dX7_commonPart_3 2 rfl ?_
  refine a_lstore (pc := 4) [(6, .long x2), (4, .long x0), (0, .long x0), (2, .long x2)] C dX7_commonPart_4 (by decide) rfl ?_
  refine a_iconst (pc := 6) (v := 0) C dX7_commonPart_6 (by decide) ?_
  refine a_istore (pc := 7) [(8, .int (0 : Int32)), (6, .long x2), (4, .long x0), (0, .long x0), (2, .long x2)] C dX7_commonPart_7 (by decide) rfl ?_
  refine a_sub [2, 1, 0] rfl ?_
  refine a_lp 9 (fun a9 : Int64 × Int64 × Int32 => [(4, .long a9.1), (6, .long a9.2.1), (8, .int a9.2.2)]) (fun a9 : Int64 × Int64 × Int32 => []) (fun a9 : Int64 × Int64 × Int32 => M) (fun k9 a9 hk9 hf => ?_) N (x0, x2, (0 : Int32)) hf
  refine a_lload (pc := 9) C dX7_commonPart_9 1 rfl ?_
  refine a_lconst (pc := 11) (v := 0) C dX7_commonPart_11 (by decide) ?_
  refine a_lcmp (pc := 12) C dX7_commonPart_12 ?_
  refine a_if_eq (pc := 13) 45 C dX7_commonPart_13 (by decide) hf (fun hf => ?_) (fun hf => ?_)
  · refine a_lload (pc := 45) C dX7_commonPart_45 0 rfl ?_
    exact a_lret (pc := 47) C dX7_commonPart_47 (Option.some.inj hf) rfl
  · refine a_iload (pc := 16) C dX7_commonPart_16 2 rfl ?_
    refine a_sipush (pc := 18) (v := 200) C dX7_commonPart_18 (by decide) ?_
    refine a_icmp_ge (pc := 21) 45 C dX7_commonPart_21 (by decide) hf (fun hf => ?_) (fun hf => ?_)
    · refine a_lload (pc := 45) C dX7_commonPart_45 0 rfl ?_
      exact a_lret (pc := 47) C dX7_commonPart_47 (Option.some.inj hf) rfl
    · refine a_lload (pc := 24) C dX7_commonPart_24 0 rfl ?_
      refine a_lload (pc := 26) C dX7_commonPart_26 1 rfl ?_
      refine a_lrem (pc := 28) C dX7_commonPart_28 hf (fun hf => ?_)
      refine a_nml hf (fun v1 hf => ?_)
      refine a_lstore (pc := 29) [(9, .long v1), (4, .long a9.1), (6, .long a9.2.1), (8, .int a9.2.2)] C dX7_commonPart_29 (by decide) rfl ?_
      refine a_lload (pc := 31) C dX7_commonPart_31 2 rfl ?_
      refine a_lstore (pc := 33) [(4, .long a9.2.1), (9, .long v1), (6, .long a9.2.1), (8, .int a9.2.2)] C dX7_commonPart_33 (by decide) rfl ?_
      refine a_lload (pc := 35) C dX7_commonPart_35 1 rfl ?_
      refine a_lstore (pc := 37) [(6, .long v1), (4, .long a9.2.1), (9, .long v1), (8, .int a9.2.2)] C dX7_commonPart_37 (by decide) rfl ?_
      refine a_iinc (pc := 39) (v := 1) (fun v2 => [(8, .int v2), (6, .long v1), (4, .long a9.2.1), (9, .long v1)]) C dX7_commonPart_39 3 rfl (by decide) (by decide) (fun _ => rfl) hf (fun v2 hf => ?_)
      refine a_goto (pc := 42) 9 C dX7_commonPart_42 (by decide) ?_
      exact a_sub [2, 1, 0] rfl (hk9 (a9.2.1, v1, v2) hf)
theorem dX8_in_0 : decode cX8_in 0 = .ok (.lload_n 0, 1) := by decide +kernel
theorem dX8_in_1 : decode cX8_in 1 = .ok (.lload_n 2, 1) := by decide +kernel
theorem dX8_in_2 : decode cX8_in 2 = .ok (.lcmp, 1) := by decide +kernel
theorem dX8_in_3 : decode cX8_in 3 = .ok (.ifCond .lt 14, 3) := by decide +kernel
theorem dX8_in_6 : decode cX8_in 6 = .ok (.lload_n 0, 1) := by decide +kernel
theorem dX8_in_7 : decode cX8_in 7 = .ok (.lload 4, 2) := by decide +kernel
theorem dX8_in_9 : decode cX8_in 9 = .ok (.lcmp, 1) := by decide +kernel
theorem dX8_in_10 : decode cX8_in 10 = .ok (.ifCond .gt 7, 3) := by decide +kernel
theorem dX8_in_13 : decode cX8_in 13 = .ok (.iconst 1, 1) := by decide +kernel
theorem dX8_in_14 : decode cX8_in 14 = .ok (.goto 4, 3) := by decide +kernel
theorem dX8_in_17 : decode cX8_in 17 = .ok (.iconst 0, 1) := by decide +kernel
theorem dX8_in_18 : decode cX8_in 18 = .ok (.ireturn, 1) := by decide +kernel
def f_X8_in (N : Nat) (x0 : Int64) (x2 : Int64) (x4 : Int64) (M : Mem) : Option (Int32) := jn (fun (a17 : Unit) => some (0 : Int32)) (fun (k17 : Unit → Option (Int32)) => if (lg_cmp x0 x2) < 0 then (k17 ()) else (if 0 < (lg_cmp x0 x4) then (k17 ()) else (some (1 : Int32))))
set_option maxRecDepth 100000 in
set_option maxHeartbeats 4000000 in
theorem c_X8_in {l : Launch} {D : va_G} {ac : Nat → ClassId} {A : Nat → Prop} {ad : Nat → Nat} {rest : va_W} (N : Nat) (x0 : Int64) (x2 : Int64) (x4 : Int64)  (M : Mem) (r0 : Int32) (hf : f_X8_in N x0 x2 x4 M = some r0) : CtI l D ac A tabM ad rest yX8_in cX8_in 6 .boolean 1 [.long x0, .long x2, .long x4] M r0 M := by
  refine ct_ofI (own := RX8) (by decide +kernel) rfl (Nat.le_of_ble_eq_true rfl) ?_
  intro p e s m args below meth c C
  unfold f_X8_in at hf
  refine a_L (L' := [(0, .long x0), (2, .long x2), (4, .long x4)]) rfl ?_
  refine a_lload_n (pc := 0) C dX8_in_0 0 rfl ?_
  refine a_lload_n (pc := 1) C dX8_in_1 1 rfl ?_
  refine a_lcmp (pc := 2) C dX8_in_2 ?_
  refine a_jn 17 (fun a17 : Unit => []) (fun a17 : Unit => []) (fun a17 : Unit => M) hf (fun a17 hf => ?_) (fun k17 hk17 hf => ?_)
  · refine a_iconst (pc := 17) (v := 0) C dX8_in_17 (by decide) ?_
    exact a_zret (pc := 18) C dX8_in_18 (Or.inl rfl) (Option.some.inj hf) rfl
  · refine a_if_lt (pc := 3) 17 C dX8_in_3 (by decide) hf (fun hf => ?_) (fun hf => ?_)
    · exact a_sub [] rfl (hk17 () hf)
    · refine a_lload_n (pc := 6) C dX8_in_6 0 rfl ?_
      refine a_lload (pc := 7) C dX8_in_7 2 rfl ?_
      refine a_lcmp (pc := 9) C dX8_in_9 ?_
      refine a_if_gt (pc := 10) 17 C dX8_in_10 (by decide) hf (fun hf => ?_) (fun hf => ?_)
      · exact a_sub [] rfl (hk17 () hf)
      · refine a_iconst (pc := 13) (v := 1) C dX8_in_13 (by decide) ?_
        refine a_goto (pc := 14) 18 C dX8_in_14 (by decide) ?_
        exact a_zret (pc := 18) C dX8_in_18 (Or.inr rfl) (Option.some.inj hf) rfl
theorem dX8_has_0 : decode cX8_has 0 = .ok (.iload_n 0, 1) := by decide +kernel
theorem dX8_has_1 : decode cX8_has 1 = .ok (.iload_n 1, 1) := by decide +kernel
theorem dX8_has_2 : decode cX8_has 2 = .ok (.ishr, 1) := by decide +kernel
theorem dX8_has_3 : decode cX8_has 3 = .ok (.iconst 1, 1) := by decide +kernel
theorem dX8_has_4 : decode cX8_has 4 = .ok (.iand, 1) := by decide +kernel
theorem dX8_has_5 : decode cX8_has 5 = .ok (.iconst 1, 1) := by decide +kernel
theorem dX8_has_6 : decode cX8_has 6 = .ok (.if_icmp .ne 7, 3) := by decide +kernel
theorem dX8_has_9 : decode cX8_has 9 = .ok (.iconst 1, 1) := by decide +kernel
theorem dX8_has_10 : decode cX8_has 10 = .ok (.goto 4, 3) := by decide +kernel
theorem dX8_has_13 : decode cX8_has 13 = .ok (.iconst 0, 1) := by decide +kernel
theorem dX8_has_14 : decode cX8_has 14 = .ok (.ireturn, 1) := by decide +kernel
def f_X8_has (N : Nat) (x0 : Int32) (x1 : Int32) (M : Mem) : Option (Int32) := if ((x0 >>> (x1 &&& 31)) &&& (1 : Int32)) = (1 : Int32) then (some (1 : Int32)) else (some (0 : Int32))
set_option maxRecDepth 100000 in
set_option maxHeartbeats 4000000 in
theorem c_X8_has {l : Launch} {D : va_G} {ac : Nat → ClassId} {A : Nat → Prop} {ad : Nat → Nat} {rest : va_W} (N : Nat) (x0 : Int32) (x1 : Int32)  (M : Mem) (r0 : Int32) (hf : f_X8_has N x0 x1 M = some r0) : CtI l D ac A tabM ad rest yX8_has cX8_has 2 .boolean 1 [.int x0, .int x1] M r0 M := by
  refine ct_ofI (own := RX8) (by decide +kernel) rfl (Nat.le_of_ble_eq_true rfl) ?_
  intro p e s m args below meth c C
  unfold f_X8_has at hf
  refine a_L (L' := [(0, .int x0), (1, .int x1)]) rfl ?_
  refine a_iload_n (pc := 0) C dX8_has_0 0 rfl ?_
  refine a_iload_n (pc := 1) C dX8_has_1 1 rfl ?_
  refine a_ishr (pc := 2) C dX8_has_2 ?_
  refine a_iconst (pc := 3) (v := 1) C dX8_has_3 (by decide) ?_
  refine a_iand (pc := 4) C dX8_has_4 ?_
  refine a_iconst (pc := 5) (v := 1) C dX8_has_5 (by decide) ?_
  refine a_icmp_ne (pc := 6) 13 C dX8_has_6 (by decide) hf (fun hf => ?_) (fun hf => ?_)
  · refine a_iconst (pc := 13) (v := 0) C dX8_has_13 (by decide) ?_
    exact a_zret (pc := 14) C dX8_has_14 (Or.inl rfl) (Option.some.inj hf) rfl
  · refine a_iconst (pc := 9) (v := 1) C dX8_has_9 (by decide) ?_
    refine a_goto (pc := 10) 14 C dX8_has_10 (by decide) ?_
    exact a_zret (pc := 14) C dX8_has_14 (Or.inr rfl) (Option.some.inj hf) rfl
