theorem dX1_init_0 : decode cX1_init 0 = .ok (.aload_n 0, 1) := by decide +kernel
theorem dX1_init_1 : decode cX1_init 1 = .ok (.invokespecial 3, 3) := by decide +kernel
theorem dX1_init_4 : decode cX1_init 4 = .ok (.aload_n 0, 1) := by decide +kernel
theorem dX1_init_5 : decode cX1_init 5 = .ok (.iconst 1, 1) := by decide +kernel
theorem dX1_init_6 : decode cX1_init 6 = .ok (.putfield 9, 3) := by decide +kernel
theorem dX1_init_9 : decode cX1_init 9 = .ok (.aload_n 0, 1) := by decide +kernel
theorem dX1_init_10 : decode cX1_init 10 = .ok (.bipush 10, 2) := by decide +kernel
theorem dX1_init_12 : decode cX1_init 12 = .ok (.newarray .int, 2) := by decide +kernel
theorem dX1_init_14 : decode cX1_init 14 = .ok (.putfield 15, 3) := by decide +kernel
theorem dX1_init_17 : decode cX1_init 17 = .ok (.aload_n 0, 1) := by decide +kernel
theorem dX1_init_18 : decode cX1_init 18 = .ok (.bipush 10, 2) := by decide +kernel
theorem dX1_init_20 : decode cX1_init 20 = .ok (.newarray .int, 2) := by decide +kernel
theorem dX1_init_22 : decode cX1_init 22 = .ok (.putfield 19, 3) := by decide +kernel
theorem dX1_init_25 : decode cX1_init 25 = .ok (.aload_n 0, 1) := by decide +kernel
theorem dX1_init_26 : decode cX1_init 26 = .ok (.bipush 10, 2) := by decide +kernel
theorem dX1_init_28 : decode cX1_init 28 = .ok (.newarray .int, 2) := by decide +kernel
theorem dX1_init_30 : decode cX1_init 30 = .ok (.putfield 22, 3) := by decide +kernel
theorem dX1_init_33 : decode cX1_init 33 = .ok (.aload_n 0, 1) := by decide +kernel
theorem dX1_init_34 : decode cX1_init 34 = .ok (.bipush 10, 2) := by decide +kernel
theorem dX1_init_36 : decode cX1_init 36 = .ok (.newarray .int, 2) := by decide +kernel
theorem dX1_init_38 : decode cX1_init 38 = .ok (.putfield 25, 3) := by decide +kernel
theorem dX1_init_41 : decode cX1_init 41 = .ok (.aload_n 0, 1) := by decide +kernel
theorem dX1_init_42 : decode cX1_init 42 = .ok (.bipush 6, 2) := by decide +kernel
theorem dX1_init_44 : decode cX1_init 44 = .ok (.newarray .long, 2) := by decide +kernel
theorem dX1_init_46 : decode cX1_init 46 = .ok (.putfield 28, 3) := by decide +kernel
theorem dX1_init_49 : decode cX1_init 49 = .ok (.return_, 1) := by decide +kernel
def nw_X1 (ac : Nat → ClassId) (h0 : Nat) (rest : va_W) (u : List Nat) : va_W := ((u.getD 4 0), .inl (ac 1, 6, .inr (.inl (fun _ => 0)))) :: ((u.getD 3 0), .inl (ac 0, 10, .inl (fun _ => 0))) :: ((u.getD 2 0), .inl (ac 0, 10, .inl (fun _ => 0))) :: ((u.getD 1 0), .inl (ac 0, 10, .inl (fun _ => 0))) :: ((u.getD 0 0), .inl (ac 0, 10, .inl (fun _ => 0))) :: (h0, .inr (1, [.int 0, .int 0, .int 1, .ref (u.getD 0 0), .ref (u.getD 1 0), .ref (u.getD 2 0), .ref (u.getD 3 0), .ref (u.getD 4 0)])) :: rest
set_option maxRecDepth 100000 in
set_option maxHeartbeats 4000000 in
theorem n_X1 {l : Launch} {D : va_G} {ac : Nat → ClassId} {A : Nat → Prop} (h0 : Nat) (rest : va_W) : CtN l D ac A yX1_init cX1_init 1 2 5 46 h0 ((h0, .inr (1, [.int 0, .int 0, .int 0, .null, .null, .null, .null, .null])) :: rest) (nw_X1 ac h0 rest) := by
  refine ct_ofN (own := RX1) (by decide +kernel) rfl rfl (by decide) ?_
  intro p e s m args below meth c C hnx hm hr hlk
  refine c_aload_n (pc := 0) C dX1_init_0 0 rfl ?_
  refine c_oinit (pc := 1) C dX1_init_1 mo_X1 (Nat.le_of_ble_eq_true rfl) (Nat.le_of_ble_eq_true rfl) ?_
  refine c_aload_n (pc := 4) C dX1_init_4 0 rfl ?_
  refine c_iconst (pc := 5) (v := 1) C dX1_init_5 (by decide) ?_
  refine c_putI (pc := 6) (q0 := 0) ((h0, .inr (1, [.int 0, .int 0, .int 1, .null, .null, .null, .null, .null])) :: rest) C dX1_init_6 fl_X1_9 rfl (Nat.le_of_ble_eq_true rfl) rfl ?_
  refine c_aload_n (pc := 9) C dX1_init_9 0 rfl ?_
  refine c_bipush (pc := 10) (v := 10) C dX1_init_10 (by decide) ?_
  refine c_newaI (pc := 12) (n' := 10) C dX1_init_12 (by decide) (by decide) (Nat.le_of_ble_eq_true rfl) (Nat.le_of_ble_eq_true rfl) (Nat.le_of_ble_eq_true rfl) (fun q0 => ?_)
  refine c_putF (pc := 14) (q0 := 1) ((q0, .inl (ac 0, 10, .inl (fun _ => 0))) :: (h0, .inr (1, [.int 0, .int 0, .int 1, .ref q0, .null, .null, .null, .null])) :: rest) C hm dX1_init_14 fl_X1_15 rfl (Nat.le_of_ble_eq_true rfl) (fun q h => by have h2 := Option.some.inj h; subst h2; rfl) rfl rfl rfl ?_
  refine c_aload_n (pc := 17) C dX1_init_17 0 rfl ?_
  refine c_bipush (pc := 18) (v := 10) C dX1_init_18 (by decide) ?_
  refine c_newaI (pc := 20) (n' := 10) C dX1_init_20 (by decide) (by decide) (Nat.le_of_ble_eq_true rfl) (Nat.le_of_ble_eq_true rfl) (Nat.le_of_ble_eq_true rfl) (fun q1 => ?_)
  refine c_putF (pc := 22) (q0 := 2) ((q1, .inl (ac 0, 10, .inl (fun _ => 0))) :: (q0, .inl (ac 0, 10, .inl (fun _ => 0))) :: (h0, .inr (1, [.int 0, .int 0, .int 1, .ref q0, .ref q1, .null, .null, .null])) :: rest) C hm dX1_init_22 fl_X1_19 rfl (Nat.le_of_ble_eq_true rfl) (fun q h => by have h2 := Option.some.inj h; subst h2; rfl) rfl rfl rfl ?_
  refine c_aload_n (pc := 25) C dX1_init_25 0 rfl ?_
  refine c_bipush (pc := 26) (v := 10) C dX1_init_26 (by decide) ?_
  refine c_newaI (pc := 28) (n' := 10) C dX1_init_28 (by decide) (by decide) (Nat.le_of_ble_eq_true rfl) (Nat.le_of_ble_eq_true rfl) (Nat.le_of_ble_eq_true rfl) (fun q2 => ?_)
  refine c_putF (pc := 30) (q0 := 3) ((q2, .inl (ac 0, 10, .inl (fun _ => 0))) :: (q1, .inl (ac 0, 10, .inl (fun _ => 0))) :: (q0, .inl (ac 0, 10, .inl (fun _ => 0))) :: (h0, .inr (1, [.int 0, .int 0, .int 1, .ref q0, .ref q1, .ref q2, .null, .null])) :: rest) C hm dX1_init_30 fl_X1_22 rfl (Nat.le_of_ble_eq_true rfl) (fun q h => by have h2 := Option.some.inj h; subst h2; rfl) rfl rfl rfl ?_
  refine c_aload_n (pc := 33) C dX1_init_33 0 rfl ?_
  refine c_bipush (pc := 34) (v := 10) C dX1_init_34 (by decide) ?_
  refine c_newaI (pc := 36) (n' := 10) C dX1_init_36 (by decide) (by decide) (Nat.le_of_ble_eq_true rfl) (Nat.le_of_ble_eq_true rfl) (Nat.le_of_ble_eq_true rfl) (fun q3 => ?_)
  refine c_putF (pc := 38) (q0 := 4) ((q3, .inl (ac 0, 10, .inl (fun _ => 0))) :: (q2, .inl (ac 0, 10, .inl (fun _ => 0))) :: (q1, .inl (ac 0, 10, .inl (fun _ => 0))) :: (q0, .inl (ac 0, 10, .inl (fun _ => 0))) :: (h0, .inr (1, [.int 0, .int 0, .int 1, .ref q0, .ref q1, .ref q2, .ref q3, .null])) :: rest) C hm dX1_init_38 fl_X1_25 rfl (Nat.le_of_ble_eq_true rfl) (fun q h => by have h2 := Option.some.inj h; subst h2; rfl) rfl rfl rfl ?_
  refine c_aload_n (pc := 41) C dX1_init_41 0 rfl ?_
  refine c_bipush (pc := 42) (v := 6) C dX1_init_42 (by decide) ?_
  refine c_newaJ (pc := 44) (n' := 6) C dX1_init_44 (by decide) (by decide) (Nat.le_of_ble_eq_true rfl) (Nat.le_of_ble_eq_true rfl) (Nat.le_of_ble_eq_true rfl) (fun q4 => ?_)
  refine c_putF (pc := 46) (q0 := 5) ((q4, .inl (ac 1, 6, .inr (.inl (fun _ => 0)))) :: (q3, .inl (ac 0, 10, .inl (fun _ => 0))) :: (q2, .inl (ac 0, 10, .inl (fun _ => 0))) :: (q1, .inl (ac 0, 10, .inl (fun _ => 0))) :: (q0, .inl (ac 0, 10, .inl (fun _ => 0))) :: (h0, .inr (1, [.int 0, .int 0, .int 1, .ref q0, .ref q1, .ref q2, .ref q3, .ref q4])) :: rest) C hm dX1_init_46 fl_X1_28 rfl (Nat.le_of_ble_eq_true rfl) (fun q h => by have h2 := Option.some.inj h; subst h2; rfl) rfl rfl rfl ?_
  exact c_vret (pc := 49) (post := nw_X1 ac h0 rest) [q0, q1, q2, q3, q4] C hr hlk dX1_init_49 rfl
theorem dX4_init_0 : decode cX4_init 0 = .ok (.aload_n 0, 1) := by decide +kernel
theorem dX4_init_1 : decode cX4_init 1 = .ok (.invokespecial 3, 3) := by decide +kernel
theorem dX4_init_4 : decode cX4_init 4 = .ok (.aload_n 0, 1) := by decide +kernel
theorem dX4_init_5 : decode cX4_init 5 = .ok (.bipush 64, 2) := by decide +kernel
theorem dX4_init_7 : decode cX4_init 7 = .ok (.newarray .int, 2) := by decide +kernel
theorem dX4_init_9 : decode cX4_init 9 = .ok (.putfield 11, 3) := by decide +kernel
theorem dX4_init_12 : decode cX4_init 12 = .ok (.aload_n 0, 1) := by decide +kernel
theorem dX4_init_13 : decode cX4_init 13 = .ok (.bipush 64, 2) := by decide +kernel
theorem dX4_init_15 : decode cX4_init 15 = .ok (.newarray .int, 2) := by decide +kernel
theorem dX4_init_17 : decode cX4_init 17 = .ok (.putfield 15, 3) := by decide +kernel
theorem dX4_init_20 : decode cX4_init 20 = .ok (.aload_n 0, 1) := by decide +kernel
theorem dX4_init_21 : decode cX4_init 21 = .ok (.bipush 6, 2) := by decide +kernel
theorem dX4_init_23 : decode cX4_init 23 = .ok (.newarray .int, 2) := by decide +kernel
theorem dX4_init_25 : decode cX4_init 25 = .ok (.putfield 18, 3) := by decide +kernel
theorem dX4_init_28 : decode cX4_init 28 = .ok (.aload_n 0, 1) := by decide +kernel
theorem dX4_init_29 : decode cX4_init 29 = .ok (.bipush 64, 2) := by decide +kernel
theorem dX4_init_31 : decode cX4_init 31 = .ok (.newarray .int, 2) := by decide +kernel
theorem dX4_init_33 : decode cX4_init 33 = .ok (.putfield 21, 3) := by decide +kernel
theorem dX4_init_36 : decode cX4_init 36 = .ok (.aload_n 0, 1) := by decide +kernel
theorem dX4_init_37 : decode cX4_init 37 = .ok (.bipush 64, 2) := by decide +kernel
theorem dX4_init_39 : decode cX4_init 39 = .ok (.newarray .int, 2) := by decide +kernel
theorem dX4_init_41 : decode cX4_init 41 = .ok (.putfield 24, 3) := by decide +kernel
theorem dX4_init_44 : decode cX4_init 44 = .ok (.aload_n 0, 1) := by decide +kernel
theorem dX4_init_45 : decode cX4_init 45 = .ok (.sipush 1024, 3) := by decide +kernel
theorem dX4_init_48 : decode cX4_init 48 = .ok (.newarray .int, 2) := by decide +kernel
theorem dX4_init_50 : decode cX4_init 50 = .ok (.putfield 27, 3) := by decide +kernel
theorem dX4_init_53 : decode cX4_init 53 = .ok (.return_, 1) := by decide +kernel
def nw_X4 (ac : Nat → ClassId) (h0 : Nat) (rest : va_W) (u : List Nat) : va_W := ((u.getD 5 0), .inl (ac 0, 1024, .inl (fun _ => 0))) :: ((u.getD 4 0), .inl (ac 0, 64, .inl (fun _ => 0))) :: ((u.getD 3 0), .inl (ac 0, 64, .inl (fun _ => 0))) :: ((u.getD 2 0), .inl (ac 0, 6, .inl (fun _ => 0))) :: ((u.getD 1 0), .inl (ac 0, 64, .inl (fun _ => 0))) :: ((u.getD 0 0), .inl (ac 0, 64, .inl (fun _ => 0))) :: (h0, .inr (4, [.int 0, .ref (u.getD 0 0), .ref (u.getD 1 0), .int 0, .int 0, .int 0, .int 0, .int 0, .ref (u.getD 2 0), .ref (u.getD 3 0), .ref (u.getD 4 0), .ref (u.getD 5 0)])) :: rest
set_option maxRecDepth 100000 in
set_option maxHeartbeats 4000000 in
theorem n_X4 {l : Launch} {D : va_G} {ac : Nat → ClassId} {A : Nat → Prop} (h0 : Nat) (rest : va_W) : CtN l D ac A yX4_init cX4_init 1 2 6 1286 h0 ((h0, .inr (4, [.int 0, .null, .null, .int 0, .int 0, .int 0, .int 0, .int 0, .null, .null, .null, .null])) :: rest) (nw_X4 ac h0 rest) := by
  refine ct_ofN (own := RX4) (by decide +kernel) rfl rfl (by decide) ?_
  intro p e s m args below meth c C hnx hm hr hlk
  refine c_aload_n (pc := 0) C dX4_init_0 0 rfl ?_
  refine c_oinit (pc := 1) C dX4_init_1 mo_X4 (Nat.le_of_ble_eq_true rfl) (Nat.le_of_ble_eq_true rfl) ?_
  refine c_aload_n (pc := 4) C dX4_init_4 0 rfl ?_
  refine c_bipush (pc := 5) (v := 64) C dX4_init_5 (by decide) ?_
  refine c_newaI (pc := 7) (n' := 64) C dX4_init_7 (by decide) (by decide) (Nat.le_of_ble_eq_true rfl) (Nat.le_of_ble_eq_true rfl) (Nat.le_of_ble_eq_true rfl) (fun q0 => ?_)
  refine c_putF (pc := 9) (q0 := 1) ((q0, .inl (ac 0, 64, .inl (fun _ => 0))) :: (h0, .inr (4, [.int 0, .ref q0, .null, .int 0, .int 0, .int 0, .int 0, .int 0, .null, .null, .null, .null])) :: rest) C hm dX4_init_9 fl_X4_11 rfl (Nat.le_of_ble_eq_true rfl) (fun q h => by have h2 := Option.some.inj h; subst h2; rfl) rfl rfl rfl ?_
  refine c_aload_n (pc := 12) C dX4_init_12 0 rfl ?_
  refine c_bipush (pc := 13) (v := 64) C dX4_init_13 (by decide) ?_
  refine c_newaI (pc := 15) (n' := 64) C dX4_init_15 (by decide) (by decide) (Nat.le_of_ble_eq_true rfl) (Nat.le_of_ble_eq_true rfl) (Nat.le_of_ble_eq_true rfl) (fun q1 => ?_)
  refine c_putF (pc := 17) (q0 := 2) ((q1, .inl (ac 0, 64, .inl (fun _ => 0))) :: (q0, .inl (ac 0, 64, .inl (fun _ => 0))) :: (h0, .inr (4, [.int 0, .ref q0, .ref q1, .int 0, .int 0, .int 0, .int 0, .int 0, .null, .null, .null, .null])) :: rest) C hm dX4_init_17 fl_X4_15 rfl (Nat.le_of_ble_eq_true rfl) (fun q h => by have h2 := Option.some.inj h; subst h2; rfl) rfl rfl rfl ?_
  refine c_aload_n (pc := 20) C dX4_init_20 0 rfl ?_
  refine c_bipush (pc := 21) (v := 6) C dX4_init_21 (by decide) ?_
  refine c_newaI (pc := 23) (n' := 6) C dX4_init_23 (by decide) (by decide) (Nat.le_of_ble_eq_true rfl) (Nat.le_of_ble_eq_true rfl) (Nat.le_of_ble_eq_true rfl) (fun q2 => ?_)
  refine c_putF (pc := 25) (q0 := 3) ((q2, .inl (ac 0, 6, .inl (fun _ => 0))) :: (q1, .inl (ac 0, 64, .inl (fun _ => 0))) :: (q0, .inl (ac 0, 64, .inl (fun _ => 0))) :: (h0, .inr (4, [.int 0, .ref q0, .ref q1, .int 0, .int 0, .int 0, .int 0, .int 0, .ref q2, .null, .null, .null])) :: rest) C hm dX4_init_25 fl_X4_18 rfl (Nat.le_of_ble_eq_true rfl) (fun q h => by have h2 := Option.some.inj h; subst h2; rfl) rfl rfl rfl ?_
  refine c_aload_n (pc := 28) C dX4_init_28 0 rfl ?_
  refine c_bipush (pc := 29) (v := 64) C dX4_init_29 (by decide) ?_
  refine c_newaI (pc := 31) (n' := 64) C dX4_init_31 (by decide) (by decide) (Nat.le_of_ble_eq_true rfl) (Nat.le_of_ble_eq_true rfl) (Nat.le_of_ble_eq_true rfl) (fun q3 => ?_)
  refine c_putF (pc := 33) (q0 := 4) ((q3, .inl (ac 0, 64, .inl (fun _ => 0))) :: (q2, .inl (ac 0, 6, .inl (fun _ => 0))) :: (q1, .inl (ac 0, 64, .inl (fun _ => 0))) :: (q0, .inl (ac 0, 64, .inl (fun _ => 0))) :: (h0, .inr (4, [.int 0, .ref q0, .ref q1, .int 0, .int 0, .int 0, .int 0, .int 0, .ref q2, .ref q3, .null, .null])) :: rest) C hm dX4_init_33 fl_X4_21 rfl (Nat.le_of_ble_eq_true rfl) (fun q h => by have h2 := Option.some.inj h; subst h2; rfl) rfl rfl rfl ?_
  refine c_aload_n (pc := 36) C dX4_init_36 0 rfl ?_
  refine c_bipush (pc := 37) (v := 64) C dX4_init_37 (by decide) ?_
  refine c_newaI (pc := 39) (n' := 64) C dX4_init_39 (by decide) (by decide) (Nat.le_of_ble_eq_true rfl) (Nat.le_of_ble_eq_true rfl) (Nat.le_of_ble_eq_true rfl) (fun q4 => ?_)
  refine c_putF (pc := 41) (q0 := 5) ((q4, .inl (ac 0, 64, .inl (fun _ => 0))) :: (q3, .inl (ac 0, 64, .inl (fun _ => 0))) :: (q2, .inl (ac 0, 6, .inl (fun _ => 0))) :: (q1, .inl (ac 0, 64, .inl (fun _ => 0))) :: (q0, .inl (ac 0, 64, .inl (fun _ => 0))) :: (h0, .inr (4, [.int 0, .ref q0, .ref q1, .int 0, .int 0, .int 0, .int 0, .int 0, .ref q2, .ref q3, .ref q4, .null])) :: rest) C hm dX4_init_41 fl_X4_24 rfl (Nat.le_of_ble_eq_true rfl) (fun q h => by have h2 := Option.some.inj h; subst h2; rfl) rfl rfl rfl ?_
  refine c_aload_n (pc := 44) C dX4_init_44 0 rfl ?_
  refine c_sipush (pc := 45) (v := 1024) C dX4_init_45 (by decide) ?_
  refine c_newaI (pc := 48) (n' := 1024) C dX4_init_48 (by decide) (by decide) (Nat.le_of_ble_eq_true rfl) (Nat.le_of_ble_eq_true rfl) (Nat.le_of_ble_eq_true rfl) (fun q5 => ?_)
  refine c_putF (pc := 50) (q0 := 6) ((q5, .inl (ac 0, 1024, .inl (fun _ => 0))) :: (q4, .inl (ac 0, 64, .inl (fun _ => 0))) :: (q3, .inl (ac 0, 64, .inl (fun _ => 0))) :: (q2, .inl (ac 0, 6, .inl (fun _ => 0))) :: (q1, .inl (ac 0, 64, .inl (fun _ => 0))) :: (q0, .inl (ac 0, 64, .inl (fun _ => 0))) :: (h0, .inr (4, [.int 0, .ref q0, .ref q1, .int 0, .int 0, .int 0, .int 0, .int 0, .ref q2, .ref q3, .ref q4, .ref q5])) :: rest) C hm dX4_init_50 fl_X4_27 rfl (Nat.le_of_ble_eq_true rfl) (fun q h => by have h2 := Option.some.inj h; subst h2; rfl) rfl rfl rfl ?_
  exact c_vret (pc := 53) (post := nw_X4 ac h0 rest) [q0, q1, q2, q3, q4, q5] C hr hlk dX4_init_53 rfl
theorem dX2_init_0 : decode cX2_init 0 = .ok (.aload_n 0, 1) := by decide +kernel
theorem dX2_init_1 : decode cX2_init 1 = .ok (.invokespecial 3, 3) := by decide +kernel
theorem dX2_init_4 : decode cX2_init 4 = .ok (.aload_n 0, 1) := by decide +kernel
theorem dX2_init_5 : decode cX2_init 5 = .ok (.bipush 6, 2) := by decide +kernel
theorem dX2_init_7 : decode cX2_init 7 = .ok (.newarray .int, 2) := by decide +kernel
theorem dX2_init_9 : decode cX2_init 9 = .ok (.putfield 9, 3) := by decide +kernel
theorem dX2_init_12 : decode cX2_init 12 = .ok (.aload_n 0, 1) := by decide +kernel
theorem dX2_init_13 : decode cX2_init 13 = .ok (.bipush 6, 2) := by decide +kernel
theorem dX2_init_15 : decode cX2_init 15 = .ok (.newarray .int, 2) := by decide +kernel
theorem dX2_init_17 : decode cX2_init 17 = .ok (.putfield 15, 3) := by decide +kernel
theorem dX2_init_20 : decode cX2_init 20 = .ok (.aload_n 0, 1) := by decide +kernel
theorem dX2_init_21 : decode cX2_init 21 = .ok (.bipush 10, 2) := by decide +kernel
theorem dX2_init_23 : decode cX2_init 23 = .ok (.newarray .int, 2) := by decide +kernel
theorem dX2_init_25 : decode cX2_init 25 = .ok (.putfield 18, 3) := by decide +kernel
theorem dX2_init_28 : decode cX2_init 28 = .ok (.aload_n 0, 1) := by decide +kernel
theorem dX2_init_29 : decode cX2_init 29 = .ok (.bipush 6, 2) := by decide +kernel
theorem dX2_init_31 : decode cX2_init 31 = .ok (.newarray .long, 2) := by decide +kernel
theorem dX2_init_33 : decode cX2_init 33 = .ok (.putfield 21, 3) := by decide +kernel
theorem dX2_init_36 : decode cX2_init 36 = .ok (.return_, 1) := by decide +kernel
def nw_X2 (ac : Nat → ClassId) (h0 : Nat) (rest : va_W) (u : List Nat) : va_W := ((u.getD 3 0), .inl (ac 1, 6, .inr (.inl (fun _ => 0)))) :: ((u.getD 2 0), .inl (ac 0, 10, .inl (fun _ => 0))) :: ((u.getD 1 0), .inl (ac 0, 6, .inl (fun _ => 0))) :: ((u.getD 0 0), .inl (ac 0, 6, .inl (fun _ => 0))) :: (h0, .inr (2, [.ref (u.getD 0 0), .int 0, .int 0, .int 0, .ref (u.getD 1 0), .ref (u.getD 2 0), .ref (u.getD 3 0)])) :: rest
set_option maxRecDepth 100000 in
set_option maxHeartbeats 4000000 in
theorem n_X2 {l : Launch} {D : va_G} {ac : Nat → ClassId} {A : Nat → Prop} (h0 : Nat) (rest : va_W) : CtN l D ac A yX2_init cX2_init 1 2 4 28 h0 ((h0, .inr (2, [.null, .int 0, .int 0, .int 0, .null, .null, .null])) :: rest) (nw_X2 ac h0 rest) := by
  refine ct_ofN (own := RX2) (by decide +kernel) rfl rfl (by decide) ?_
  intro p e s m args below meth c C hnx hm hr hlk
  refine c_aload_n (pc := 0) C dX2_init_0 0 rfl ?_
  refine c_oinit (pc := 1) C dX2_init_1 mo_X2 (Nat.le_of_ble_eq_true rfl) (Nat.le_of_ble_eq_true rfl) ?_
  refine c_aload_n (pc := 4) C dX2_init_4 0 rfl ?_
  refine c_bipush (pc := 5) (v := 6) C dX2_init_5 (by decide) ?_
  refine c_newaI (pc := 7) (n' := 6) C dX2_init_7 (by decide) (by decide) (Nat.le_of_ble_eq_true rfl) (Nat.le_of_ble_eq_true rfl) (Nat.le_of_ble_eq_true rfl) (fun q0 => ?_)
  refine c_putF (pc := 9) (q0 := 1) ((q0, .inl (ac 0, 6, .inl (fun _ => 0))) :: (h0, .inr (2, [.ref q0, .int 0, .int 0, .int 0, .null, .null, .null])) :: rest) C hm dX2_init_9 fl_X2_9 rfl (Nat.le_of_ble_eq_true rfl) (fun q h => by have h2 := Option.some.inj h; subst h2; rfl) rfl rfl rfl ?_
  refine c_aload_n (pc := 12) C dX2_init_12 0 rfl ?_
  refine c_bipush (pc := 13) (v := 6) C dX2_init_13 (by decide) ?_
  refine c_newaI (pc := 15) (n' := 6) C dX2_init_15 (by decide) (by decide) (Nat.le_of_ble_eq_true rfl) (Nat.le_of_ble_eq_true rfl) (Nat.le_of_ble_eq_true rfl) (fun q1 => ?_)
  refine c_putF (pc := 17) (q0 := 2) ((q1, .inl (ac 0, 6, .inl (fun _ => 0))) :: (q0, .inl (ac 0, 6, .inl (fun _ => 0))) :: (h0, .inr (2, [.ref q0, .int 0, .int 0, .int 0, .ref q1, .null, .null])) :: rest) C hm dX2_init_17 fl_X2_15 rfl (Nat.le_of_ble_eq_true rfl) (fun q h => by have h2 := Option.some.inj h; subst h2; rfl) rfl rfl rfl ?_
  refine c_aload_n (pc := 20) C dX2_init_20 0 rfl ?_
  refine c_bipush (pc := 21) (v := 10) C dX2_init_21 (by decide) ?_
  refine c_newaI (pc := 23) (n' := 10) C dX2_init_23 (by decide) (by decide) (Nat.le_of_ble_eq_true rfl) (Nat.le_of_ble_eq_true rfl) (Nat.le_of_ble_eq_true rfl) (fun q2 => ?_)
  refine c_putF (pc := 25) (q0 := 3) ((q2, .inl (ac 0, 10, .inl (fun _ => 0))) :: (q1, .inl (ac 0, 6, .inl (fun _ => 0))) :: (q0, .inl (ac 0, 6, .inl (fun _ => 0))) :: (h0, .inr (2, [.ref q0, .int 0, .int 0, .int 0, .ref q1, .ref q2, .null])) :: rest) C hm dX2_init_25 fl_X2_18 rfl (Nat.le_of_ble_eq_true rfl) (fun q h => by have h2 := Option.some.inj h; subst h2; rfl) rfl rfl rfl ?_
  refine c_aload_n (pc := 28) C dX2_init_28 0 rfl ?_
  refine c_bipush (pc := 29) (v := 6) C dX2_init_29 (by decide) ?_
  refine c_newaJ (pc := 31) (n' := 6) C dX2_init_31 (by decide) (by decide) (Nat.le_of_ble_eq_true rfl) (Nat.le_of_ble_eq_true rfl) (Nat.le_of_ble_eq_true rfl) (fun q3 => ?_)
  refine c_putF (pc := 33) (q0 := 4) ((q3, .inl (ac 1, 6, .inr (.inl (fun _ => 0)))) :: (q2, .inl (ac 0, 10, .inl (fun _ => 0))) :: (q1, .inl (ac 0, 6, .inl (fun _ => 0))) :: (q0, .inl (ac 0, 6, .inl (fun _ => 0))) :: (h0, .inr (2, [.ref q0, .int 0, .int 0, .int 0, .ref q1, .ref q2, .ref q3])) :: rest) C hm dX2_init_33 fl_X2_21 rfl (Nat.le_of_ble_eq_true rfl) (fun q h => by have h2 := Option.some.inj h; subst h2; rfl) rfl rfl rfl ?_
  exact c_vret (pc := 36) (post := nw_X2 ac h0 rest) [q0, q1, q2, q3] C hr hlk dX2_init_36 rfl
theorem dX6_init_0 : decode cX6_init 0 = .ok (.aload_n 0, 1) := by decide +kernel
theorem dX6_init_1 : decode cX6_init 1 = .ok (.invokespecial 3, 3) := by decide +kernel
theorem dX6_init_4 : decode cX6_init 4 = .ok (.aload_n 0, 1) := by decide +kernel
theorem dX6_init_5 : decode cX6_init 5 = .ok (.bipush 120, 2) := by decide +kernel
theorem dX6_init_7 : decode cX6_init 7 = .ok (.newarray .int, 2) := by decide +kernel
theorem dX6_init_9 : decode cX6_init 9 = .ok (.putfield 9, 3) := by decide +kernel
theorem dX6_init_12 : decode cX6_init 12 = .ok (.return_, 1) := by decide +kernel
def nw_X6 (ac : Nat → ClassId) (h0 : Nat) (rest : va_W) (u : List Nat) : va_W := ((u.getD 0 0), .inl (ac 0, 120, .inl (fun _ => 0))) :: (h0, .inr (6, [.int 0, .ref (u.getD 0 0), .int 0, .int 0, .int 0, .int 0])) :: rest
set_option maxRecDepth 100000 in
set_option maxHeartbeats 4000000 in
theorem n_X6 {l : Launch} {D : va_G} {ac : Nat → ClassId} {A : Nat → Prop} (h0 : Nat) (rest : va_W) : CtN l D ac A yX6_init cX6_init 1 2 1 120 h0 ((h0, .inr (6, [.int 0, .null, .int 0, .int 0, .int 0, .int 0])) :: rest) (nw_X6 ac h0 rest) := by
  refine ct_ofN (own := RX6) (by decide +kernel) rfl rfl (by decide) ?_
  intro p e s m args below meth c C hnx hm hr hlk
  refine c_aload_n (pc := 0) C dX6_init_0 0 rfl ?_
  refine c_oinit (pc := 1) C dX6_init_1 mo_X6 (Nat.le_of_ble_eq_true rfl) (Nat.le_of_ble_eq_true rfl) ?_
  refine c_aload_n (pc := 4) C dX6_init_4 0 rfl ?_
  refine c_bipush (pc := 5) (v := 120) C dX6_init_5 (by decide) ?_
  refine c_newaI (pc := 7) (n' := 120) C dX6_init_7 (by decide) (by decide) (Nat.le_of_ble_eq_true rfl) (Nat.le_of_ble_eq_true rfl) (Nat.le_of_ble_eq_true rfl) (fun q0 => ?_)
  refine c_putF (pc := 9) (q0 := 1) ((q0, .inl (ac 0, 120, .inl (fun _ => 0))) :: (h0, .inr (6, [.int 0, .ref q0, .int 0, .int 0, .int 0, .int 0])) :: rest) C hm dX6_init_9 fl_X6_9 rfl (Nat.le_of_ble_eq_true rfl) (fun q h => by have h2 := Option.some.inj h; subst h2; rfl) rfl rfl rfl ?_
  exact c_vret (pc := 12) (post := nw_X6 ac h0 rest) [q0] C hr hlk dX6_init_12 rfl
theorem dX3_init_0 : decode cX3_init 0 = .ok (.aload_n 0, 1) := by decide +kernel
theorem dX3_init_1 : decode cX3_init 1 = .ok (.invokespecial 3, 3) := by decide +kernel
theorem dX3_init_4 : decode cX3_init 4 = .ok (.return_, 1) := by decide +kernel
def nw_X3 (ac : Nat → ClassId) (h0 : Nat) (rest : va_W) (u : List Nat) : va_W := (h0, .inr (3, [.int 0])) :: rest
set_option maxRecDepth 100000 in
set_option maxHeartbeats 4000000 in
theorem n_X3 {l : Launch} {D : va_G} {ac : Nat → ClassId} {A : Nat → Prop} (h0 : Nat) (rest : va_W) : CtN l D ac A yX3_init cX3_init 1 2 0 0 h0 ((h0, .inr (3, [.int 0])) :: rest) (nw_X3 ac h0 rest) := by
  refine ct_ofN (own := RX3) (by decide +kernel) rfl rfl (by decide) ?_
  intro p e s m args below meth c C hnx hm hr hlk
  refine c_aload_n (pc := 0) C dX3_init_0 0 rfl ?_
  refine c_oinit (pc := 1) C dX3_init_1 mo_X3 (Nat.le_of_ble_eq_true rfl) (Nat.le_of_ble_eq_true rfl) ?_
  exact c_vret (pc := 4) (post := nw_X3 ac h0 rest) [] C hr hlk dX3_init_4 rfl
theorem dX0_init_0 : decode cX0_init 0 = .ok (.aload_n 0, 1) := by decide +kernel
theorem dX0_init_1 : decode cX0_init 1 = .ok (.invokespecial 3, 3) := by decide +kernel
theorem dX0_init_4 : decode cX0_init 4 = .ok (.return_, 1) := by decide +kernel
def nw_X0 (ac : Nat → ClassId) (h0 : Nat) (rest : va_W) (u : List Nat) : va_W := (h0, .inr (0, [.int 0, .long 0, .long 0, .int 0, .int 0, .int 0, .long 0])) :: rest
set_option maxRecDepth 100000 in
set_option maxHeartbeats 4000000 in
theorem n_X0 {l : Launch} {D : va_G} {ac : Nat → ClassId} {A : Nat → Prop} (h0 : Nat) (rest : va_W) : CtN l D ac A yX0_init cX0_init 1 2 0 0 h0 ((h0, .inr (0, [.int 0, .long 0, .long 0, .int 0, .int 0, .int 0, .long 0])) :: rest) (nw_X0 ac h0 rest) := by
  refine ct_ofN (own := RX0) (by decide +kernel) rfl rfl (by decide) ?_
  intro p e s m args below meth c C hnx hm hr hlk
  refine c_aload_n (pc := 0) C dX0_init_0 0 rfl ?_
  refine c_oinit (pc := 1) C dX0_init_1 mo_X0 (Nat.le_of_ble_eq_true rfl) (Nat.le_of_ble_eq_true rfl) ?_
  exact c_vret (pc := 4) (post := nw_X0 ac h0 rest) [] C hr hlk dX0_init_4 rfl
theorem dX5_init_0 : decode cX5_init 0 = .ok (.aload_n 0, 1) := by decide +kernel
theorem dX5_init_1 : decode cX5_init 1 = .ok (.invokespecial 3, 3) := by decide +kernel
theorem dX5_init_4 : decode cX5_init 4 = .ok (.aload_n 0, 1) := by decide +kernel
theorem dX5_init_5 : decode cX5_init 5 = .ok (.iconst (-1), 1) := by decide +kernel
theorem dX5_init_6 : decode cX5_init 6 = .ok (.putfield 9, 3) := by decide +kernel
theorem dX5_init_9 : decode cX5_init 9 = .ok (.aload_n 0, 1) := by decide +kernel
theorem dX5_init_10 : decode cX5_init 10 = .ok (.bipush 40, 2) := by decide +kernel
theorem dX5_init_12 : decode cX5_init 12 = .ok (.newarray .long, 2) := by decide +kernel
theorem dX5_init_14 : decode cX5_init 14 = .ok (.putfield 15, 3) := by decide +kernel
theorem dX5_init_17 : decode cX5_init 17 = .ok (.return_, 1) := by decide +kernel
def nw_X5 (ac : Nat → ClassId) (h0 : Nat) (rest : va_W) (u : List Nat) : va_W := ((u.getD 0 0), .inl (ac 1, 40, .inr (.inl (fun _ => 0)))) :: (h0, .inr (5, [.int (-1), .int 0, .ref (u.getD 0 0)])) :: rest
set_option maxRecDepth 100000 in
set_option maxHeartbeats 4000000 in
theorem n_X5 {l : Launch} {D : va_G} {ac : Nat → ClassId} {A : Nat → Prop} (h0 : Nat) (rest : va_W) : CtN l D ac A yX5_init cX5_init 1 2 1 40 h0 ((h0, .inr (5, [.int 0, .int 0, .null])) :: rest) (nw_X5 ac h0 rest) := by
  refine ct_ofN (own := RX5) (by decide +kernel) rfl rfl (by decide) ?_
  intro p e s m args below meth c C hnx hm hr hlk
  refine c_aload_n (pc := 0) C dX5_init_0 0 rfl ?_
  refine c_oinit (pc := 1) C dX5_init_1 mo_X5 (Nat.le_of_ble_eq_true rfl) (Nat.le_of_ble_eq_true rfl) ?_
  refine c_aload_n (pc := 4) C dX5_init_4 0 rfl ?_
  refine c_iconst (pc := 5) (v := (-1)) C dX5_init_5 (by decide) ?_
  refine c_putI (pc := 6) (q0 := 0) ((h0, .inr (5, [.int (-1), .int 0, .null])) :: rest) C dX5_init_6 fl_X5_9 rfl (Nat.le_of_ble_eq_true rfl) rfl ?_
  refine c_aload_n (pc := 9) C dX5_init_9 0 rfl ?_
  refine c_bipush (pc := 10) (v := 40) C dX5_init_10 (by decide) ?_
  refine c_newaJ (pc := 12) (n' := 40) C dX5_init_12 (by decide) (by decide) (Nat.le_of_ble_eq_true rfl) (Nat.le_of_ble_eq_true rfl) (Nat.le_of_ble_eq_true rfl) (fun q0 => ?_)
  refine c_putF (pc := 14) (q0 := 1) ((q0, .inl (ac 1, 40, .inr (.inl (fun _ => 0)))) :: (h0, .inr (5, [.int (-1), .int 0, .ref q0])) :: rest) C hm dX5_init_14 fl_X5_15 rfl (Nat.le_of_ble_eq_true rfl) (fun q h => by have h2 := Option.some.inj h; subst h2; rfl) rfl rfl rfl ?_
  exact c_vret (pc := 17) (post := nw_X5 ac h0 rest) [q0] C hr hlk dX5_init_17 rfl
